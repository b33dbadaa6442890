theorem dX0_init_0 : decode cX0_init 0 = .ok (.aload_n 0, 1) := by decide +kernel
theorem dX0_init_1 : decode cX0_init 1 = .ok (.invokespecial 3, 3) := by decide +kernel
theorem dX0_init_4 : decode cX0_init 4 = .ok (.aload_n 0, 1) := by decide +kernel
theorem dX0_init_5 : decode cX0_init 5 = .ok (.iconst 0, 1) := by decide +kernel
theorem dX0_init_6 : decode cX0_init 6 = .ok (.putfield 9, 3) := by decide +kernel
theorem dX0_init_9 : decode cX0_init 9 = .ok (.aload_n 0, 1) := by decide +kernel
theorem dX0_init_10 : decode cX0_init 10 = .ok (.iconst 0, 1) := by decide +kernel
theorem dX0_init_11 : decode cX0_init 11 = .ok (.putfield 15, 3) := by decide +kernel
theorem dX0_init_14 : decode cX0_init 14 = .ok (.aload_n 0, 1) := by decide +kernel
theorem dX0_init_15 : decode cX0_init 15 = .ok (.iconst 0, 1) := by decide +kernel
theorem dX0_init_16 : decode cX0_init 16 = .ok (.putfield 18, 3) := by decide +kernel
theorem dX0_init_19 : decode cX0_init 19 = .ok (.aload_n 0, 1) := by decide +kernel
theorem dX0_init_20 : decode cX0_init 20 = .ok (.iconst 0, 1) := by decide +kernel
theorem dX0_init_21 : decode cX0_init 21 = .ok (.putfield 21, 3) := by decide +kernel
theorem dX0_init_24 : decode cX0_init 24 = .ok (.aload_n 0, 1) := by decide +kernel
theorem dX0_init_25 : decode cX0_init 25 = .ok (.iconst 0, 1) := by decide +kernel
theorem dX0_init_26 : decode cX0_init 26 = .ok (.putfield 24, 3) := by decide +kernel
theorem dX0_init_29 : decode cX0_init 29 = .ok (.aload_n 0, 1) := by decide +kernel
theorem dX0_init_30 : decode cX0_init 30 = .ok (.iconst 0, 1) := by decide +kernel
theorem dX0_init_31 : decode cX0_init 31 = .ok (.putfield 27, 3) := by decide +kernel
theorem dX0_init_34 : decode cX0_init 34 = .ok (.aload_n 0, 1) := by decide +kernel
theorem dX0_init_35 : decode cX0_init 35 = .ok (.iconst 0, 1) := by decide +kernel
theorem dX0_init_36 : decode cX0_init 36 = .ok (.putfield 30, 3) := by decide +kernel
theorem dX0_init_39 : decode cX0_init 39 = .ok (.aload_n 0, 1) := by decide +kernel
theorem dX0_init_40 : decode cX0_init 40 = .ok (.iconst 0, 1) := by decide +kernel
theorem dX0_init_41 : decode cX0_init 41 = .ok (.putfield 33, 3) := by decide +kernel
theorem dX0_init_44 : decode cX0_init 44 = .ok (.aload_n 0, 1) := by decide +kernel
theorem dX0_init_45 : decode cX0_init 45 = .ok (.iconst 0, 1) := by decide +kernel
theorem dX0_init_46 : decode cX0_init 46 = .ok (.putfield 37, 3) := by decide +kernel
theorem dX0_init_49 : decode cX0_init 49 = .ok (.return_, 1) := by decide +kernel
theorem dX0_tell_0 : decode cX0_tell 0 = .ok (.iload_n 2, 1) := by decide +kernel
theorem dX0_tell_1 : decode cX0_tell 1 = .ok (.ifCond .lt 18, 3) := by decide +kernel
theorem dX0_tell_4 : decode cX0_tell 4 = .ok (.iload_n 2, 1) := by decide +kernel
theorem dX0_tell_5 : decode cX0_tell 5 = .ok (.iconst 5, 1) := by decide +kernel
theorem dX0_tell_6 : decode cX0_tell 6 = .ok (.if_icmp .ge 13, 3) := by decide +kernel
theorem dX0_tell_9 : decode cX0_tell 9 = .ok (.iload_n 3, 1) := by decide +kernel
theorem dX0_tell_10 : decode cX0_tell 10 = .ok (.ifCond .lt 9, 3) := by decide +kernel
theorem dX0_tell_13 : decode cX0_tell 13 = .ok (.iload_n 3, 1) := by decide +kernel
theorem dX0_tell_14 : decode cX0_tell 14 = .ok (.bipush 8, 2) := by decide +kernel
theorem dX0_tell_16 : decode cX0_tell 16 = .ok (.if_icmp .lt 4, 3) := by decide +kernel
theorem dX0_tell_19 : decode cX0_tell 19 = .ok (.return_, 1) := by decide +kernel
theorem dX0_tell_20 : decode cX0_tell 20 = .ok (.aload_n 0, 1) := by decide +kernel
theorem dX0_tell_21 : decode cX0_tell 21 = .ok (.iload_n 3, 1) := by decide +kernel
theorem dX0_tell_22 : decode cX0_tell 22 = .ok (.putfield 9, 3) := by decide +kernel
theorem dX0_tell_25 : decode cX0_tell 25 = .ok (.aload_n 0, 1) := by decide +kernel
theorem dX0_tell_26 : decode cX0_tell 26 = .ok (.iload_n 2, 1) := by decide +kernel
theorem dX0_tell_27 : decode cX0_tell 27 = .ok (.putfield 15, 3) := by decide +kernel
theorem dX0_tell_30 : decode cX0_tell 30 = .ok (.aload_n 0, 1) := by decide +kernel
theorem dX0_tell_31 : decode cX0_tell 31 = .ok (.aload_n 1, 1) := by decide +kernel
theorem dX0_tell_32 : decode cX0_tell 32 = .ok (.getfield 40, 3) := by decide +kernel
theorem dX0_tell_35 : decode cX0_tell 35 = .ok (.iload_n 3, 1) := by decide +kernel
theorem dX0_tell_36 : decode cX0_tell 36 = .ok (.iaload, 1) := by decide +kernel
theorem dX0_tell_37 : decode cX0_tell 37 = .ok (.putfield 18, 3) := by decide +kernel
theorem dX0_tell_40 : decode cX0_tell 40 = .ok (.aload_n 0, 1) := by decide +kernel
theorem dX0_tell_41 : decode cX0_tell 41 = .ok (.aload_n 1, 1) := by decide +kernel
theorem dX0_tell_42 : decode cX0_tell 42 = .ok (.getfield 45, 3) := by decide +kernel
theorem dX0_tell_45 : decode cX0_tell 45 = .ok (.iload_n 2, 1) := by decide +kernel
theorem dX0_tell_46 : decode cX0_tell 46 = .ok (.iaload, 1) := by decide +kernel
theorem dX0_tell_47 : decode cX0_tell 47 = .ok (.putfield 21, 3) := by decide +kernel
theorem dX0_tell_50 : decode cX0_tell 50 = .ok (.aload_n 0, 1) := by decide +kernel
theorem dX0_tell_51 : decode cX0_tell 51 = .ok (.aload_n 1, 1) := by decide +kernel
theorem dX0_tell_52 : decode cX0_tell 52 = .ok (.getfield 47, 3) := by decide +kernel
theorem dX0_tell_55 : decode cX0_tell 55 = .ok (.iload_n 2, 1) := by decide +kernel
theorem dX0_tell_56 : decode cX0_tell 56 = .ok (.iaload, 1) := by decide +kernel
theorem dX0_tell_57 : decode cX0_tell 57 = .ok (.putfield 24, 3) := by decide +kernel
theorem dX0_tell_60 : decode cX0_tell 60 = .ok (.aload_n 0, 1) := by decide +kernel
theorem dX0_tell_61 : decode cX0_tell 61 = .ok (.aload_n 1, 1) := by decide +kernel
theorem dX0_tell_62 : decode cX0_tell 62 = .ok (.iload_n 3, 1) := by decide +kernel
theorem dX0_tell_63 : decode cX0_tell 63 = .ok (.aload_n 1, 1) := by decide +kernel
theorem dX0_tell_64 : decode cX0_tell 64 = .ok (.getfield 49, 3) := by decide +kernel
theorem dX0_tell_67 : decode cX0_tell 67 = .ok (.iload_n 2, 1) := by decide +kernel
theorem dX0_tell_68 : decode cX0_tell 68 = .ok (.iaload, 1) := by decide +kernel
theorem dX0_tell_69 : decode cX0_tell 69 = .ok (.invokevirtual 52, 3) := by decide +kernel
theorem dX0_tell_72 : decode cX0_tell 72 = .ok (.putfield 27, 3) := by decide +kernel
theorem dX0_tell_75 : decode cX0_tell 75 = .ok (.aload_n 0, 1) := by decide +kernel
theorem dX0_tell_76 : decode cX0_tell 76 = .ok (.aload_n 1, 1) := by decide +kernel
theorem dX0_tell_77 : decode cX0_tell 77 = .ok (.getfield 56, 3) := by decide +kernel
theorem dX0_tell_80 : decode cX0_tell 80 = .ok (.putfield 30, 3) := by decide +kernel
theorem dX0_tell_83 : decode cX0_tell 83 = .ok (.aload_n 0, 1) := by decide +kernel
theorem dX0_tell_84 : decode cX0_tell 84 = .ok (.aload_n 1, 1) := by decide +kernel
theorem dX0_tell_85 : decode cX0_tell 85 = .ok (.iload_n 3, 1) := by decide +kernel
theorem dX0_tell_86 : decode cX0_tell 86 = .ok (.invokevirtual 57, 3) := by decide +kernel
theorem dX0_tell_89 : decode cX0_tell 89 = .ok (.putfield 33, 3) := by decide +kernel
theorem dX0_tell_92 : decode cX0_tell 92 = .ok (.aload_n 0, 1) := by decide +kernel
theorem dX0_tell_93 : decode cX0_tell 93 = .ok (.aload_n 1, 1) := by decide +kernel
theorem dX0_tell_94 : decode cX0_tell 94 = .ok (.getfield 61, 3) := by decide +kernel
theorem dX0_tell_97 : decode cX0_tell 97 = .ok (.aload_n 0, 1) := by decide +kernel
theorem dX0_tell_98 : decode cX0_tell 98 = .ok (.getfield 30, 3) := by decide +kernel
theorem dX0_tell_101 : decode cX0_tell 101 = .ok (.ishr, 1) := by decide +kernel
theorem dX0_tell_102 : decode cX0_tell 102 = .ok (.iconst 1, 1) := by decide +kernel
theorem dX0_tell_103 : decode cX0_tell 103 = .ok (.iand, 1) := by decide +kernel
theorem dX0_tell_104 : decode cX0_tell 104 = .ok (.iconst 1, 1) := by decide +kernel
theorem dX0_tell_105 : decode cX0_tell 105 = .ok (.if_icmp .ne 7, 3) := by decide +kernel
theorem dX0_tell_108 : decode cX0_tell 108 = .ok (.iconst 1, 1) := by decide +kernel
theorem dX0_tell_109 : decode cX0_tell 109 = .ok (.goto 4, 3) := by decide +kernel
theorem dX0_tell_112 : decode cX0_tell 112 = .ok (.iconst 0, 1) := by decide +kernel
theorem dX0_tell_113 : decode cX0_tell 113 = .ok (.putfield 37, 3) := by decide +kernel
theorem dX0_tell_116 : decode cX0_tell 116 = .ok (.return_, 1) := by decide +kernel
theorem dX1_init_0 : decode cX1_init 0 = .ok (.aload_n 0, 1) := by decide +kernel
theorem dX1_init_1 : decode cX1_init 1 = .ok (.invokespecial 3, 3) := by decide +kernel
theorem dX1_init_4 : decode cX1_init 4 = .ok (.aload_n 0, 1) := by decide +kernel
theorem dX1_init_5 : decode cX1_init 5 = .ok (.iconst 0, 1) := by decide +kernel
theorem dX1_init_6 : decode cX1_init 6 = .ok (.putfield 9, 3) := by decide +kernel
theorem dX1_init_9 : decode cX1_init 9 = .ok (.aload_n 0, 1) := by decide +kernel
theorem dX1_init_10 : decode cX1_init 10 = .ok (.iconst 0, 1) := by decide +kernel
theorem dX1_init_11 : decode cX1_init 11 = .ok (.putfield 15, 3) := by decide +kernel
theorem dX1_init_14 : decode cX1_init 14 = .ok (.aload_n 0, 1) := by decide +kernel
theorem dX1_init_15 : decode cX1_init 15 = .ok (.iconst 0, 1) := by decide +kernel
theorem dX1_init_16 : decode cX1_init 16 = .ok (.putfield 19, 3) := by decide +kernel
theorem dX1_init_19 : decode cX1_init 19 = .ok (.aload_n 0, 1) := by decide +kernel
theorem dX1_init_20 : decode cX1_init 20 = .ok (.bipush 12, 2) := by decide +kernel
theorem dX1_init_22 : decode cX1_init 22 = .ok (.newarray .int, 2) := by decide +kernel
theorem dX1_init_24 : decode cX1_init 24 = .ok (.putfield 22, 3) := by decide +kernel
theorem dX1_init_27 : decode cX1_init 27 = .ok (.aload_n 0, 1) := by decide +kernel
theorem dX1_init_28 : decode cX1_init 28 = .ok (.bipush 12, 2) := by decide +kernel
theorem dX1_init_30 : decode cX1_init 30 = .ok (.newarray .int, 2) := by decide +kernel
theorem dX1_init_32 : decode cX1_init 32 = .ok (.putfield 26, 3) := by decide +kernel
theorem dX1_init_35 : decode cX1_init 35 = .ok (.aload_n 0, 1) := by decide +kernel
theorem dX1_init_36 : decode cX1_init 36 = .ok (.bipush 12, 2) := by decide +kernel
theorem dX1_init_38 : decode cX1_init 38 = .ok (.newarray .int, 2) := by decide +kernel
theorem dX1_init_40 : decode cX1_init 40 = .ok (.putfield 29, 3) := by decide +kernel
theorem dX1_init_43 : decode cX1_init 43 = .ok (.aload_n 0, 1) := by decide +kernel
theorem dX1_init_44 : decode cX1_init 44 = .ok (.bipush 12, 2) := by decide +kernel
theorem dX1_init_46 : decode cX1_init 46 = .ok (.newarray .int, 2) := by decide +kernel
theorem dX1_init_48 : decode cX1_init 48 = .ok (.putfield 32, 3) := by decide +kernel
theorem dX1_init_51 : decode cX1_init 51 = .ok (.aload_n 0, 1) := by decide +kernel
theorem dX1_init_52 : decode cX1_init 52 = .ok (.sipush 400, 3) := by decide +kernel
theorem dX1_init_55 : decode cX1_init 55 = .ok (.newarray .int, 2) := by decide +kernel
theorem dX1_init_57 : decode cX1_init 57 = .ok (.putfield 35, 3) := by decide +kernel
theorem dX1_init_60 : decode cX1_init 60 = .ok (.return_, 1) := by decide +kernel
theorem dX1_clears_0 : decode cX1_clears 0 = .ok (.aload_n 0, 1) := by decide +kernel
theorem dX1_clears_1 : decode cX1_clears 1 = .ok (.iconst 1, 1) := by decide +kernel
theorem dX1_clears_2 : decode cX1_clears 2 = .ok (.putfield 9, 3) := by decide +kernel
theorem dX1_clears_5 : decode cX1_clears 5 = .ok (.aload_n 0, 1) := by decide +kernel
theorem dX1_clears_6 : decode cX1_clears 6 = .ok (.iconst 0, 1) := by decide +kernel
theorem dX1_clears_7 : decode cX1_clears 7 = .ok (.putfield 15, 3) := by decide +kernel
theorem dX1_clears_10 : decode cX1_clears 10 = .ok (.aload_n 0, 1) := by decide +kernel
theorem dX1_clears_11 : decode cX1_clears 11 = .ok (.iconst 0, 1) := by decide +kernel
theorem dX1_clears_12 : decode cX1_clears 12 = .ok (.putfield 19, 3) := by decide +kernel
theorem dX1_clears_15 : decode cX1_clears 15 = .ok (.return_, 1) := by decide +kernel
theorem dX1_copies_0 : decode cX1_copies 0 = .ok (.aload_n 0, 1) := by decide +kernel
theorem dX1_copies_1 : decode cX1_copies 1 = .ok (.aload_n 1, 1) := by decide +kernel
theorem dX1_copies_2 : decode cX1_copies 2 = .ok (.getfield 9, 3) := by decide +kernel
theorem dX1_copies_5 : decode cX1_copies 5 = .ok (.putfield 9, 3) := by decide +kernel
theorem dX1_copies_8 : decode cX1_copies 8 = .ok (.aload_n 0, 1) := by decide +kernel
theorem dX1_copies_9 : decode cX1_copies 9 = .ok (.aload_n 1, 1) := by decide +kernel
theorem dX1_copies_10 : decode cX1_copies 10 = .ok (.getfield 15, 3) := by decide +kernel
theorem dX1_copies_13 : decode cX1_copies 13 = .ok (.putfield 15, 3) := by decide +kernel
theorem dX1_copies_16 : decode cX1_copies 16 = .ok (.aload_n 0, 1) := by decide +kernel
theorem dX1_copies_17 : decode cX1_copies 17 = .ok (.aload_n 1, 1) := by decide +kernel
theorem dX1_copies_18 : decode cX1_copies 18 = .ok (.getfield 19, 3) := by decide +kernel
theorem dX1_copies_21 : decode cX1_copies 21 = .ok (.putfield 19, 3) := by decide +kernel
theorem dX1_copies_24 : decode cX1_copies 24 = .ok (.aload_n 1, 1) := by decide +kernel
theorem dX1_copies_25 : decode cX1_copies 25 = .ok (.getfield 22, 3) := by decide +kernel
theorem dX1_copies_28 : decode cX1_copies 28 = .ok (.iconst 0, 1) := by decide +kernel
theorem dX1_copies_29 : decode cX1_copies 29 = .ok (.aload_n 0, 1) := by decide +kernel
theorem dX1_copies_30 : decode cX1_copies 30 = .ok (.getfield 22, 3) := by decide +kernel
theorem dX1_copies_33 : decode cX1_copies 33 = .ok (.iconst 0, 1) := by decide +kernel
theorem dX1_copies_34 : decode cX1_copies 34 = .ok (.bipush 12, 2) := by decide +kernel
theorem dX1_copies_36 : decode cX1_copies 36 = .ok (.invokestatic 38, 3) := by decide +kernel
theorem dX1_copies_39 : decode cX1_copies 39 = .ok (.aload_n 1, 1) := by decide +kernel
theorem dX1_copies_40 : decode cX1_copies 40 = .ok (.getfield 26, 3) := by decide +kernel
theorem dX1_copies_43 : decode cX1_copies 43 = .ok (.iconst 0, 1) := by decide +kernel
theorem dX1_copies_44 : decode cX1_copies 44 = .ok (.aload_n 0, 1) := by decide +kernel
theorem dX1_copies_45 : decode cX1_copies 45 = .ok (.getfield 26, 3) := by decide +kernel
theorem dX1_copies_48 : decode cX1_copies 48 = .ok (.iconst 0, 1) := by decide +kernel
theorem dX1_copies_49 : decode cX1_copies 49 = .ok (.bipush 12, 2) := by decide +kernel
theorem dX1_copies_51 : decode cX1_copies 51 = .ok (.invokestatic 38, 3) := by decide +kernel
theorem dX1_copies_54 : decode cX1_copies 54 = .ok (.aload_n 1, 1) := by decide +kernel
theorem dX1_copies_55 : decode cX1_copies 55 = .ok (.getfield 29, 3) := by decide +kernel
theorem dX1_copies_58 : decode cX1_copies 58 = .ok (.iconst 0, 1) := by decide +kernel
theorem dX1_copies_59 : decode cX1_copies 59 = .ok (.aload_n 0, 1) := by decide +kernel
theorem dX1_copies_60 : decode cX1_copies 60 = .ok (.getfield 29, 3) := by decide +kernel
theorem dX1_copies_63 : decode cX1_copies 63 = .ok (.iconst 0, 1) := by decide +kernel
theorem dX1_copies_64 : decode cX1_copies 64 = .ok (.bipush 12, 2) := by decide +kernel
theorem dX1_copies_66 : decode cX1_copies 66 = .ok (.invokestatic 38, 3) := by decide +kernel
theorem dX1_copies_69 : decode cX1_copies 69 = .ok (.aload_n 1, 1) := by decide +kernel
theorem dX1_copies_70 : decode cX1_copies 70 = .ok (.getfield 32, 3) := by decide +kernel
theorem dX1_copies_73 : decode cX1_copies 73 = .ok (.iconst 0, 1) := by decide +kernel
theorem dX1_copies_74 : decode cX1_copies 74 = .ok (.aload_n 0, 1) := by decide +kernel
theorem dX1_copies_75 : decode cX1_copies 75 = .ok (.getfield 32, 3) := by decide +kernel
theorem dX1_copies_78 : decode cX1_copies 78 = .ok (.iconst 0, 1) := by decide +kernel
theorem dX1_copies_79 : decode cX1_copies 79 = .ok (.bipush 12, 2) := by decide +kernel
theorem dX1_copies_81 : decode cX1_copies 81 = .ok (.invokestatic 38, 3) := by decide +kernel
theorem dX1_copies_84 : decode cX1_copies 84 = .ok (.aload_n 1, 1) := by decide +kernel
theorem dX1_copies_85 : decode cX1_copies 85 = .ok (.getfield 35, 3) := by decide +kernel
theorem dX1_copies_88 : decode cX1_copies 88 = .ok (.iconst 0, 1) := by decide +kernel
theorem dX1_copies_89 : decode cX1_copies 89 = .ok (.aload_n 0, 1) := by decide +kernel
theorem dX1_copies_90 : decode cX1_copies 90 = .ok (.getfield 35, 3) := by decide +kernel
theorem dX1_copies_93 : decode cX1_copies 93 = .ok (.iconst 0, 1) := by decide +kernel
theorem dX1_copies_94 : decode cX1_copies 94 = .ok (.sipush 400, 3) := by decide +kernel
theorem dX1_copies_97 : decode cX1_copies 97 = .ok (.invokestatic 38, 3) := by decide +kernel
theorem dX1_copies_100 : decode cX1_copies 100 = .ok (.return_, 1) := by decide +kernel
theorem dX1_addsStep_0 : decode cX1_addsStep 0 = .ok (.aload_n 0, 1) := by decide +kernel
theorem dX1_addsStep_1 : decode cX1_addsStep 1 = .ok (.getfield 19, 3) := by decide +kernel
theorem dX1_addsStep_4 : decode cX1_addsStep 4 = .ok (.sipush 400, 3) := by decide +kernel
theorem dX1_addsStep_7 : decode cX1_addsStep 7 = .ok (.if_icmp .ge 23, 3) := by decide +kernel
theorem dX1_addsStep_10 : decode cX1_addsStep 10 = .ok (.aload_n 0, 1) := by decide +kernel
theorem dX1_addsStep_11 : decode cX1_addsStep 11 = .ok (.getfield 35, 3) := by decide +kernel
theorem dX1_addsStep_14 : decode cX1_addsStep 14 = .ok (.aload_n 0, 1) := by decide +kernel
theorem dX1_addsStep_15 : decode cX1_addsStep 15 = .ok (.getfield 19, 3) := by decide +kernel
theorem dX1_addsStep_18 : decode cX1_addsStep 18 = .ok (.iload_n 1, 1) := by decide +kernel
theorem dX1_addsStep_19 : decode cX1_addsStep 19 = .ok (.iastore, 1) := by decide +kernel
theorem dX1_addsStep_20 : decode cX1_addsStep 20 = .ok (.aload_n 0, 1) := by decide +kernel
theorem dX1_addsStep_21 : decode cX1_addsStep 21 = .ok (.dup, 1) := by decide +kernel
theorem dX1_addsStep_22 : decode cX1_addsStep 22 = .ok (.getfield 19, 3) := by decide +kernel
theorem dX1_addsStep_25 : decode cX1_addsStep 25 = .ok (.iconst 1, 1) := by decide +kernel
theorem dX1_addsStep_26 : decode cX1_addsStep 26 = .ok (.iadd, 1) := by decide +kernel
theorem dX1_addsStep_27 : decode cX1_addsStep 27 = .ok (.putfield 19, 3) := by decide +kernel
theorem dX1_addsStep_30 : decode cX1_addsStep 30 = .ok (.return_, 1) := by decide +kernel
theorem dX1_addsLine_0 : decode cX1_addsLine 0 = .ok (.aload_n 0, 1) := by decide +kernel
theorem dX1_addsLine_1 : decode cX1_addsLine 1 = .ok (.getfield 15, 3) := by decide +kernel
theorem dX1_addsLine_4 : decode cX1_addsLine 4 = .ok (.bipush 12, 2) := by decide +kernel
theorem dX1_addsLine_6 : decode cX1_addsLine 6 = .ok (.if_icmp .ge 56, 3) := by decide +kernel
theorem dX1_addsLine_9 : decode cX1_addsLine 9 = .ok (.aload_n 0, 1) := by decide +kernel
theorem dX1_addsLine_10 : decode cX1_addsLine 10 = .ok (.getfield 22, 3) := by decide +kernel
theorem dX1_addsLine_13 : decode cX1_addsLine 13 = .ok (.aload_n 0, 1) := by decide +kernel
theorem dX1_addsLine_14 : decode cX1_addsLine 14 = .ok (.getfield 15, 3) := by decide +kernel
theorem dX1_addsLine_17 : decode cX1_addsLine 17 = .ok (.iload_n 1, 1) := by decide +kernel
theorem dX1_addsLine_18 : decode cX1_addsLine 18 = .ok (.iastore, 1) := by decide +kernel
theorem dX1_addsLine_19 : decode cX1_addsLine 19 = .ok (.aload_n 0, 1) := by decide +kernel
theorem dX1_addsLine_20 : decode cX1_addsLine 20 = .ok (.getfield 26, 3) := by decide +kernel
theorem dX1_addsLine_23 : decode cX1_addsLine 23 = .ok (.aload_n 0, 1) := by decide +kernel
theorem dX1_addsLine_24 : decode cX1_addsLine 24 = .ok (.getfield 15, 3) := by decide +kernel
theorem dX1_addsLine_27 : decode cX1_addsLine 27 = .ok (.iload_n 2, 1) := by decide +kernel
theorem dX1_addsLine_28 : decode cX1_addsLine 28 = .ok (.iastore, 1) := by decide +kernel
theorem dX1_addsLine_29 : decode cX1_addsLine 29 = .ok (.aload_n 0, 1) := by decide +kernel
theorem dX1_addsLine_30 : decode cX1_addsLine 30 = .ok (.getfield 29, 3) := by decide +kernel
theorem dX1_addsLine_33 : decode cX1_addsLine 33 = .ok (.aload_n 0, 1) := by decide +kernel
theorem dX1_addsLine_34 : decode cX1_addsLine 34 = .ok (.getfield 15, 3) := by decide +kernel
theorem dX1_addsLine_37 : decode cX1_addsLine 37 = .ok (.iload_n 3, 1) := by decide +kernel
theorem dX1_addsLine_38 : decode cX1_addsLine 38 = .ok (.iastore, 1) := by decide +kernel
theorem dX1_addsLine_39 : decode cX1_addsLine 39 = .ok (.aload_n 0, 1) := by decide +kernel
theorem dX1_addsLine_40 : decode cX1_addsLine 40 = .ok (.getfield 32, 3) := by decide +kernel
theorem dX1_addsLine_43 : decode cX1_addsLine 43 = .ok (.aload_n 0, 1) := by decide +kernel
theorem dX1_addsLine_44 : decode cX1_addsLine 44 = .ok (.getfield 15, 3) := by decide +kernel
theorem dX1_addsLine_47 : decode cX1_addsLine 47 = .ok (.aload_n 0, 1) := by decide +kernel
theorem dX1_addsLine_48 : decode cX1_addsLine 48 = .ok (.getfield 19, 3) := by decide +kernel
theorem dX1_addsLine_51 : decode cX1_addsLine 51 = .ok (.iastore, 1) := by decide +kernel
theorem dX1_addsLine_52 : decode cX1_addsLine 52 = .ok (.aload_n 0, 1) := by decide +kernel
theorem dX1_addsLine_53 : decode cX1_addsLine 53 = .ok (.dup, 1) := by decide +kernel
theorem dX1_addsLine_54 : decode cX1_addsLine 54 = .ok (.getfield 15, 3) := by decide +kernel
theorem dX1_addsLine_57 : decode cX1_addsLine 57 = .ok (.iconst 1, 1) := by decide +kernel
theorem dX1_addsLine_58 : decode cX1_addsLine 58 = .ok (.iadd, 1) := by decide +kernel
theorem dX1_addsLine_59 : decode cX1_addsLine 59 = .ok (.putfield 15, 3) := by decide +kernel
theorem dX1_addsLine_62 : decode cX1_addsLine 62 = .ok (.return_, 1) := by decide +kernel
theorem dX1_pinch_0 : decode cX1_pinch 0 = .ok (.aload_n 1, 1) := by decide +kernel
theorem dX1_pinch_1 : decode cX1_pinch 1 = .ok (.getfield 44, 3) := by decide +kernel
theorem dX1_pinch_4 : decode cX1_pinch 4 = .ok (.ifCond .eq 5, 3) := by decide +kernel
theorem dX1_pinch_7 : decode cX1_pinch 7 = .ok (.iconst 0, 1) := by decide +kernel
theorem dX1_pinch_8 : decode cX1_pinch 8 = .ok (.ireturn, 1) := by decide +kernel
theorem dX1_pinch_9 : decode cX1_pinch 9 = .ok (.iconst 0, 1) := by decide +kernel
theorem dX1_pinch_10 : decode cX1_pinch 10 = .ok (.aload_n 1, 1) := by decide +kernel
theorem dX1_pinch_11 : decode cX1_pinch 11 = .ok (.getfield 49, 3) := by decide +kernel
theorem dX1_pinch_14 : decode cX1_pinch 14 = .ok (.ifCond .eq 7, 3) := by decide +kernel
theorem dX1_pinch_17 : decode cX1_pinch 17 = .ok (.iconst 0, 1) := by decide +kernel
theorem dX1_pinch_18 : decode cX1_pinch 18 = .ok (.goto 7, 3) := by decide +kernel
theorem dX1_pinch_21 : decode cX1_pinch 21 = .ok (.aload_n 1, 1) := by decide +kernel
theorem dX1_pinch_22 : decode cX1_pinch 22 = .ok (.getfield 52, 3) := by decide +kernel
theorem dX1_pinch_25 : decode cX1_pinch 25 = .ok (.aload_n 1, 1) := by decide +kernel
theorem dX1_pinch_26 : decode cX1_pinch 26 = .ok (.getfield 55, 3) := by decide +kernel
theorem dX1_pinch_29 : decode cX1_pinch 29 = .ok (.isub, 1) := by decide +kernel
theorem dX1_pinch_30 : decode cX1_pinch 30 = .ok (.invokestatic 58, 3) := by decide +kernel
theorem dX1_pinch_33 : decode cX1_pinch 33 = .ok (.istore_n 2, 1) := by decide +kernel
theorem dX1_pinch_34 : decode cX1_pinch 34 = .ok (.iconst 0, 1) := by decide +kernel
theorem dX1_pinch_35 : decode cX1_pinch 35 = .ok (.istore_n 3, 1) := by decide +kernel
theorem dX1_pinch_36 : decode cX1_pinch 36 = .ok (.iload_n 3, 1) := by decide +kernel
theorem dX1_pinch_37 : decode cX1_pinch 37 = .ok (.aload_n 0, 1) := by decide +kernel
theorem dX1_pinch_38 : decode cX1_pinch 38 = .ok (.getfield 15, 3) := by decide +kernel
theorem dX1_pinch_41 : decode cX1_pinch 41 = .ok (.if_icmp .ge 100, 3) := by decide +kernel
theorem dX1_pinch_44 : decode cX1_pinch 44 = .ok (.iload_n 3, 1) := by decide +kernel
theorem dX1_pinch_45 : decode cX1_pinch 45 = .ok (.bipush 12, 2) := by decide +kernel
theorem dX1_pinch_47 : decode cX1_pinch 47 = .ok (.if_icmp .ge 94, 3) := by decide +kernel
theorem dX1_pinch_50 : decode cX1_pinch 50 = .ok (.aload_n 0, 1) := by decide +kernel
theorem dX1_pinch_51 : decode cX1_pinch 51 = .ok (.getfield 22, 3) := by decide +kernel
theorem dX1_pinch_54 : decode cX1_pinch 54 = .ok (.iload_n 3, 1) := by decide +kernel
theorem dX1_pinch_55 : decode cX1_pinch 55 = .ok (.iaload, 1) := by decide +kernel
theorem dX1_pinch_56 : decode cX1_pinch 56 = .ok (.sipush 269, 3) := by decide +kernel
theorem dX1_pinch_59 : decode cX1_pinch 59 = .ok (.if_icmp .ne 35, 3) := by decide +kernel
theorem dX1_pinch_62 : decode cX1_pinch 62 = .ok (.aload_n 0, 1) := by decide +kernel
theorem dX1_pinch_63 : decode cX1_pinch 63 = .ok (.aload_n 0, 1) := by decide +kernel
theorem dX1_pinch_64 : decode cX1_pinch 64 = .ok (.getfield 29, 3) := by decide +kernel
theorem dX1_pinch_67 : decode cX1_pinch 67 = .ok (.iload_n 3, 1) := by decide +kernel
theorem dX1_pinch_68 : decode cX1_pinch 68 = .ok (.iaload, 1) := by decide +kernel
theorem dX1_pinch_69 : decode cX1_pinch 69 = .ok (.aload_n 0, 1) := by decide +kernel
theorem dX1_pinch_70 : decode cX1_pinch 70 = .ok (.getfield 32, 3) := by decide +kernel
theorem dX1_pinch_73 : decode cX1_pinch 73 = .ok (.iload_n 3, 1) := by decide +kernel
theorem dX1_pinch_74 : decode cX1_pinch 74 = .ok (.iaload, 1) := by decide +kernel
theorem dX1_pinch_75 : decode cX1_pinch 75 = .ok (.aload_n 1, 1) := by decide +kernel
theorem dX1_pinch_76 : decode cX1_pinch 76 = .ok (.invokevirtual 64, 3) := by decide +kernel
theorem dX1_pinch_79 : decode cX1_pinch 79 = .ok (.ifCond .eq 15, 3) := by decide +kernel
theorem dX1_pinch_82 : decode cX1_pinch 82 = .ok (.iload_n 2, 1) := by decide +kernel
theorem dX1_pinch_83 : decode cX1_pinch 83 = .ok (.aload_n 0, 1) := by decide +kernel
theorem dX1_pinch_84 : decode cX1_pinch 84 = .ok (.getfield 26, 3) := by decide +kernel
theorem dX1_pinch_87 : decode cX1_pinch 87 = .ok (.iload_n 3, 1) := by decide +kernel
theorem dX1_pinch_88 : decode cX1_pinch 88 = .ok (.iaload, 1) := by decide +kernel
theorem dX1_pinch_89 : decode cX1_pinch 89 = .ok (.iadd, 1) := by decide +kernel
theorem dX1_pinch_90 : decode cX1_pinch 90 = .ok (.istore_n 2, 1) := by decide +kernel
theorem dX1_pinch_91 : decode cX1_pinch 91 = .ok (.goto 44, 3) := by decide +kernel
theorem dX1_pinch_94 : decode cX1_pinch 94 = .ok (.aload_n 0, 1) := by decide +kernel
theorem dX1_pinch_95 : decode cX1_pinch 95 = .ok (.getfield 22, 3) := by decide +kernel
theorem dX1_pinch_98 : decode cX1_pinch 98 = .ok (.iload_n 3, 1) := by decide +kernel
theorem dX1_pinch_99 : decode cX1_pinch 99 = .ok (.iaload, 1) := by decide +kernel
theorem dX1_pinch_100 : decode cX1_pinch 100 = .ok (.sipush 270, 3) := by decide +kernel
theorem dX1_pinch_103 : decode cX1_pinch 103 = .ok (.if_icmp .ne 32, 3) := by decide +kernel
theorem dX1_pinch_106 : decode cX1_pinch 106 = .ok (.aload_n 0, 1) := by decide +kernel
theorem dX1_pinch_107 : decode cX1_pinch 107 = .ok (.aload_n 0, 1) := by decide +kernel
theorem dX1_pinch_108 : decode cX1_pinch 108 = .ok (.getfield 29, 3) := by decide +kernel
theorem dX1_pinch_111 : decode cX1_pinch 111 = .ok (.iload_n 3, 1) := by decide +kernel
theorem dX1_pinch_112 : decode cX1_pinch 112 = .ok (.iaload, 1) := by decide +kernel
theorem dX1_pinch_113 : decode cX1_pinch 113 = .ok (.aload_n 0, 1) := by decide +kernel
theorem dX1_pinch_114 : decode cX1_pinch 114 = .ok (.getfield 32, 3) := by decide +kernel
theorem dX1_pinch_117 : decode cX1_pinch 117 = .ok (.iload_n 3, 1) := by decide +kernel
theorem dX1_pinch_118 : decode cX1_pinch 118 = .ok (.iaload, 1) := by decide +kernel
theorem dX1_pinch_119 : decode cX1_pinch 119 = .ok (.aload_n 1, 1) := by decide +kernel
theorem dX1_pinch_120 : decode cX1_pinch 120 = .ok (.invokevirtual 64, 3) := by decide +kernel
theorem dX1_pinch_123 : decode cX1_pinch 123 = .ok (.ifCond .eq 12, 3) := by decide +kernel
theorem dX1_pinch_126 : decode cX1_pinch 126 = .ok (.iload_n 2, 1) := by decide +kernel
theorem dX1_pinch_127 : decode cX1_pinch 127 = .ok (.aload_n 0, 1) := by decide +kernel
theorem dX1_pinch_128 : decode cX1_pinch 128 = .ok (.getfield 26, 3) := by decide +kernel
theorem dX1_pinch_131 : decode cX1_pinch 131 = .ok (.iload_n 3, 1) := by decide +kernel
theorem dX1_pinch_132 : decode cX1_pinch 132 = .ok (.iaload, 1) := by decide +kernel
theorem dX1_pinch_133 : decode cX1_pinch 133 = .ok (.isub, 1) := by decide +kernel
theorem dX1_pinch_134 : decode cX1_pinch 134 = .ok (.istore_n 2, 1) := by decide +kernel
theorem dX1_pinch_135 : decode cX1_pinch 135 = .ok (.iinc 3 1, 3) := by decide +kernel
theorem dX1_pinch_138 : decode cX1_pinch 138 = .ok (.goto (-102), 3) := by decide +kernel
theorem dX1_pinch_141 : decode cX1_pinch 141 = .ok (.iconst 0, 1) := by decide +kernel
theorem dX1_pinch_142 : decode cX1_pinch 142 = .ok (.iload_n 2, 1) := by decide +kernel
theorem dX1_pinch_143 : decode cX1_pinch 143 = .ok (.aload_n 1, 1) := by decide +kernel
theorem dX1_pinch_144 : decode cX1_pinch 144 = .ok (.getfield 68, 3) := by decide +kernel
theorem dX1_pinch_147 : decode cX1_pinch 147 = .ok (.invokestatic 71, 3) := by decide +kernel
theorem dX1_pinch_150 : decode cX1_pinch 150 = .ok (.invokestatic 58, 3) := by decide +kernel
theorem dX1_pinch_153 : decode cX1_pinch 153 = .ok (.ireturn, 1) := by decide +kernel
theorem dX1_setsBy_0 : decode cX1_setsBy 0 = .ok (.iconst 1, 1) := by decide +kernel
theorem dX1_setsBy_1 : decode cX1_setsBy 1 = .ok (.istore_n 2, 1) := by decide +kernel
theorem dX1_setsBy_2 : decode cX1_setsBy 2 = .ok (.iconst 0, 1) := by decide +kernel
theorem dX1_setsBy_3 : decode cX1_setsBy 3 = .ok (.istore_n 3, 1) := by decide +kernel
theorem dX1_setsBy_4 : decode cX1_setsBy 4 = .ok (.iload_n 3, 1) := by decide +kernel
theorem dX1_setsBy_5 : decode cX1_setsBy 5 = .ok (.aload_n 0, 1) := by decide +kernel
theorem dX1_setsBy_6 : decode cX1_setsBy 6 = .ok (.getfield 15, 3) := by decide +kernel
theorem dX1_setsBy_9 : decode cX1_setsBy 9 = .ok (.if_icmp .ge 56, 3) := by decide +kernel
theorem dX1_setsBy_12 : decode cX1_setsBy 12 = .ok (.iload_n 3, 1) := by decide +kernel
theorem dX1_setsBy_13 : decode cX1_setsBy 13 = .ok (.bipush 12, 2) := by decide +kernel
theorem dX1_setsBy_15 : decode cX1_setsBy 15 = .ok (.if_icmp .ge 50, 3) := by decide +kernel
theorem dX1_setsBy_18 : decode cX1_setsBy 18 = .ok (.aload_n 0, 1) := by decide +kernel
theorem dX1_setsBy_19 : decode cX1_setsBy 19 = .ok (.getfield 22, 3) := by decide +kernel
theorem dX1_setsBy_22 : decode cX1_setsBy 22 = .ok (.iload_n 3, 1) := by decide +kernel
theorem dX1_setsBy_23 : decode cX1_setsBy 23 = .ok (.iaload, 1) := by decide +kernel
theorem dX1_setsBy_24 : decode cX1_setsBy 24 = .ok (.sipush 262, 3) := by decide +kernel
theorem dX1_setsBy_27 : decode cX1_setsBy 27 = .ok (.if_icmp .ne 32, 3) := by decide +kernel
theorem dX1_setsBy_30 : decode cX1_setsBy 30 = .ok (.aload_n 0, 1) := by decide +kernel
theorem dX1_setsBy_31 : decode cX1_setsBy 31 = .ok (.aload_n 0, 1) := by decide +kernel
theorem dX1_setsBy_32 : decode cX1_setsBy 32 = .ok (.getfield 29, 3) := by decide +kernel
theorem dX1_setsBy_35 : decode cX1_setsBy 35 = .ok (.iload_n 3, 1) := by decide +kernel
theorem dX1_setsBy_36 : decode cX1_setsBy 36 = .ok (.iaload, 1) := by decide +kernel
theorem dX1_setsBy_37 : decode cX1_setsBy 37 = .ok (.aload_n 0, 1) := by decide +kernel
theorem dX1_setsBy_38 : decode cX1_setsBy 38 = .ok (.getfield 32, 3) := by decide +kernel
theorem dX1_setsBy_41 : decode cX1_setsBy 41 = .ok (.iload_n 3, 1) := by decide +kernel
theorem dX1_setsBy_42 : decode cX1_setsBy 42 = .ok (.iaload, 1) := by decide +kernel
theorem dX1_setsBy_43 : decode cX1_setsBy 43 = .ok (.aload_n 1, 1) := by decide +kernel
theorem dX1_setsBy_44 : decode cX1_setsBy 44 = .ok (.invokevirtual 64, 3) := by decide +kernel
theorem dX1_setsBy_47 : decode cX1_setsBy 47 = .ok (.ifCond .eq 12, 3) := by decide +kernel
theorem dX1_setsBy_50 : decode cX1_setsBy 50 = .ok (.iload_n 2, 1) := by decide +kernel
theorem dX1_setsBy_51 : decode cX1_setsBy 51 = .ok (.aload_n 0, 1) := by decide +kernel
theorem dX1_setsBy_52 : decode cX1_setsBy 52 = .ok (.getfield 26, 3) := by decide +kernel
theorem dX1_setsBy_55 : decode cX1_setsBy 55 = .ok (.iload_n 3, 1) := by decide +kernel
theorem dX1_setsBy_56 : decode cX1_setsBy 56 = .ok (.iaload, 1) := by decide +kernel
theorem dX1_setsBy_57 : decode cX1_setsBy 57 = .ok (.iadd, 1) := by decide +kernel
theorem dX1_setsBy_58 : decode cX1_setsBy 58 = .ok (.istore_n 2, 1) := by decide +kernel
theorem dX1_setsBy_59 : decode cX1_setsBy 59 = .ok (.iinc 3 1, 3) := by decide +kernel
theorem dX1_setsBy_62 : decode cX1_setsBy 62 = .ok (.goto (-58), 3) := by decide +kernel
theorem dX1_setsBy_65 : decode cX1_setsBy 65 = .ok (.iload_n 2, 1) := by decide +kernel
theorem dX1_setsBy_66 : decode cX1_setsBy 66 = .ok (.ireturn, 1) := by decide +kernel
theorem dX1_holds_0 : decode cX1_holds 0 = .ok (.iconst 1, 1) := by decide +kernel
theorem dX1_holds_1 : decode cX1_holds 1 = .ok (.istore 4, 2) := by decide +kernel
theorem dX1_holds_3 : decode cX1_holds 3 = .ok (.iconst 0, 1) := by decide +kernel
theorem dX1_holds_4 : decode cX1_holds 4 = .ok (.istore 5, 2) := by decide +kernel
theorem dX1_holds_6 : decode cX1_holds 6 = .ok (.iconst 0, 1) := by decide +kernel
theorem dX1_holds_7 : decode cX1_holds 7 = .ok (.istore 6, 2) := by decide +kernel
theorem dX1_holds_9 : decode cX1_holds 9 = .ok (.iconst 0, 1) := by decide +kernel
theorem dX1_holds_10 : decode cX1_holds 10 = .ok (.iload_n 1, 1) := by decide +kernel
theorem dX1_holds_11 : decode cX1_holds 11 = .ok (.invokestatic 58, 3) := by decide +kernel
theorem dX1_holds_14 : decode cX1_holds 14 = .ok (.istore 7, 2) := by decide +kernel
theorem dX1_holds_16 : decode cX1_holds 16 = .ok (.iload 7, 2) := by decide +kernel
theorem dX1_holds_18 : decode cX1_holds 18 = .ok (.iload_n 2, 1) := by decide +kernel
theorem dX1_holds_19 : decode cX1_holds 19 = .ok (.if_icmp .ge 288, 3) := by decide +kernel
theorem dX1_holds_22 : decode cX1_holds 22 = .ok (.iload 7, 2) := by decide +kernel
theorem dX1_holds_24 : decode cX1_holds 24 = .ok (.sipush 400, 3) := by decide +kernel
theorem dX1_holds_27 : decode cX1_holds 27 = .ok (.if_icmp .ge 280, 3) := by decide +kernel
theorem dX1_holds_30 : decode cX1_holds 30 = .ok (.aload_n 0, 1) := by decide +kernel
theorem dX1_holds_31 : decode cX1_holds 31 = .ok (.getfield 35, 3) := by decide +kernel
theorem dX1_holds_34 : decode cX1_holds 34 = .ok (.iload 7, 2) := by decide +kernel
theorem dX1_holds_36 : decode cX1_holds 36 = .ok (.iaload, 1) := by decide +kernel
theorem dX1_holds_37 : decode cX1_holds 37 = .ok (.istore 8, 2) := by decide +kernel
theorem dX1_holds_39 : decode cX1_holds 39 = .ok (.iload 8, 2) := by decide +kernel
theorem dX1_holds_41 : decode cX1_holds 41 = .ok (.sipush 1000, 3) := by decide +kernel
theorem dX1_holds_44 : decode cX1_holds 44 = .ok (.if_icmp .ge 13, 3) := by decide +kernel
theorem dX1_holds_47 : decode cX1_holds 47 = .ok (.iload 6, 2) := by decide +kernel
theorem dX1_holds_49 : decode cX1_holds 49 = .ok (.iload 8, 2) := by decide +kernel
theorem dX1_holds_51 : decode cX1_holds 51 = .ok (.iadd, 1) := by decide +kernel
theorem dX1_holds_52 : decode cX1_holds 52 = .ok (.istore 6, 2) := by decide +kernel
theorem dX1_holds_54 : decode cX1_holds 54 = .ok (.goto 247, 3) := by decide +kernel
theorem dX1_holds_57 : decode cX1_holds 57 = .ok (.iload 8, 2) := by decide +kernel
theorem dX1_holds_59 : decode cX1_holds 59 = .ok (.lookupswitch 231 #[(1001, 73), (1002, 83), (1003, 108), (1259, 133), (1272, 217), (1273, 190), (1274, 181), (1275, 155)], 73) := by decide +kernel
theorem dX1_holds_132 : decode cX1_holds 132 = .ok (.iload 6, 2) := by decide +kernel
theorem dX1_holds_134 : decode cX1_holds 134 = .ok (.istore 5, 2) := by decide +kernel
theorem dX1_holds_136 : decode cX1_holds 136 = .ok (.iconst 0, 1) := by decide +kernel
theorem dX1_holds_137 : decode cX1_holds 137 = .ok (.istore 6, 2) := by decide +kernel
theorem dX1_holds_139 : decode cX1_holds 139 = .ok (.goto 162, 3) := by decide +kernel
theorem dX1_holds_142 : decode cX1_holds 142 = .ok (.iload 4, 2) := by decide +kernel
theorem dX1_holds_144 : decode cX1_holds 144 = .ok (.iconst 1, 1) := by decide +kernel
theorem dX1_holds_145 : decode cX1_holds 145 = .ok (.ishl, 1) := by decide +kernel
theorem dX1_holds_146 : decode cX1_holds 146 = .ok (.iload 5, 2) := by decide +kernel
theorem dX1_holds_148 : decode cX1_holds 148 = .ok (.iload 6, 2) := by decide +kernel
theorem dX1_holds_150 : decode cX1_holds 150 = .ok (.if_icmp .ge 7, 3) := by decide +kernel
theorem dX1_holds_153 : decode cX1_holds 153 = .ok (.iconst 1, 1) := by decide +kernel
theorem dX1_holds_154 : decode cX1_holds 154 = .ok (.goto 4, 3) := by decide +kernel
theorem dX1_holds_157 : decode cX1_holds 157 = .ok (.iconst 0, 1) := by decide +kernel
theorem dX1_holds_158 : decode cX1_holds 158 = .ok (.ior, 1) := by decide +kernel
theorem dX1_holds_159 : decode cX1_holds 159 = .ok (.istore 4, 2) := by decide +kernel
theorem dX1_holds_161 : decode cX1_holds 161 = .ok (.iconst 0, 1) := by decide +kernel
theorem dX1_holds_162 : decode cX1_holds 162 = .ok (.istore 6, 2) := by decide +kernel
theorem dX1_holds_164 : decode cX1_holds 164 = .ok (.goto 137, 3) := by decide +kernel
theorem dX1_holds_167 : decode cX1_holds 167 = .ok (.iload 4, 2) := by decide +kernel
theorem dX1_holds_169 : decode cX1_holds 169 = .ok (.iconst 1, 1) := by decide +kernel
theorem dX1_holds_170 : decode cX1_holds 170 = .ok (.ishl, 1) := by decide +kernel
theorem dX1_holds_171 : decode cX1_holds 171 = .ok (.iload 5, 2) := by decide +kernel
theorem dX1_holds_173 : decode cX1_holds 173 = .ok (.iload 6, 2) := by decide +kernel
theorem dX1_holds_175 : decode cX1_holds 175 = .ok (.if_icmp .le 7, 3) := by decide +kernel
theorem dX1_holds_178 : decode cX1_holds 178 = .ok (.iconst 1, 1) := by decide +kernel
theorem dX1_holds_179 : decode cX1_holds 179 = .ok (.goto 4, 3) := by decide +kernel
theorem dX1_holds_182 : decode cX1_holds 182 = .ok (.iconst 0, 1) := by decide +kernel
theorem dX1_holds_183 : decode cX1_holds 183 = .ok (.ior, 1) := by decide +kernel
theorem dX1_holds_184 : decode cX1_holds 184 = .ok (.istore 4, 2) := by decide +kernel
theorem dX1_holds_186 : decode cX1_holds 186 = .ok (.iconst 0, 1) := by decide +kernel
theorem dX1_holds_187 : decode cX1_holds 187 = .ok (.istore 6, 2) := by decide +kernel
theorem dX1_holds_189 : decode cX1_holds 189 = .ok (.goto 112, 3) := by decide +kernel
theorem dX1_holds_192 : decode cX1_holds 192 = .ok (.iload 4, 2) := by decide +kernel
theorem dX1_holds_194 : decode cX1_holds 194 = .ok (.iconst 1, 1) := by decide +kernel
theorem dX1_holds_195 : decode cX1_holds 195 = .ok (.ishl, 1) := by decide +kernel
theorem dX1_holds_196 : decode cX1_holds 196 = .ok (.aload_n 3, 1) := by decide +kernel
theorem dX1_holds_197 : decode cX1_holds 197 = .ok (.getfield 49, 3) := by decide +kernel
theorem dX1_holds_200 : decode cX1_holds 200 = .ok (.ifCond .eq 7, 3) := by decide +kernel
theorem dX1_holds_203 : decode cX1_holds 203 = .ok (.iconst 1, 1) := by decide +kernel
theorem dX1_holds_204 : decode cX1_holds 204 = .ok (.goto 4, 3) := by decide +kernel
theorem dX1_holds_207 : decode cX1_holds 207 = .ok (.iconst 0, 1) := by decide +kernel
theorem dX1_holds_208 : decode cX1_holds 208 = .ok (.ior, 1) := by decide +kernel
theorem dX1_holds_209 : decode cX1_holds 209 = .ok (.istore 4, 2) := by decide +kernel
theorem dX1_holds_211 : decode cX1_holds 211 = .ok (.goto 90, 3) := by decide +kernel
theorem dX1_holds_214 : decode cX1_holds 214 = .ok (.iload 4, 2) := by decide +kernel
theorem dX1_holds_216 : decode cX1_holds 216 = .ok (.iconst 1, 1) := by decide +kernel
theorem dX1_holds_217 : decode cX1_holds 217 = .ok (.ishl, 1) := by decide +kernel
theorem dX1_holds_218 : decode cX1_holds 218 = .ok (.aload_n 3, 1) := by decide +kernel
theorem dX1_holds_219 : decode cX1_holds 219 = .ok (.getfield 68, 3) := by decide +kernel
theorem dX1_holds_222 : decode cX1_holds 222 = .ok (.aload_n 3, 1) := by decide +kernel
theorem dX1_holds_223 : decode cX1_holds 223 = .ok (.getfield 52, 3) := by decide +kernel
theorem dX1_holds_226 : decode cX1_holds 226 = .ok (.if_icmp .gt 7, 3) := by decide +kernel
theorem dX1_holds_229 : decode cX1_holds 229 = .ok (.iconst 1, 1) := by decide +kernel
theorem dX1_holds_230 : decode cX1_holds 230 = .ok (.goto 4, 3) := by decide +kernel
theorem dX1_holds_233 : decode cX1_holds 233 = .ok (.iconst 0, 1) := by decide +kernel
theorem dX1_holds_234 : decode cX1_holds 234 = .ok (.ior, 1) := by decide +kernel
theorem dX1_holds_235 : decode cX1_holds 235 = .ok (.istore 4, 2) := by decide +kernel
theorem dX1_holds_237 : decode cX1_holds 237 = .ok (.goto 64, 3) := by decide +kernel
theorem dX1_holds_240 : decode cX1_holds 240 = .ok (.iload 4, 2) := by decide +kernel
theorem dX1_holds_242 : decode cX1_holds 242 = .ok (.iconst 1, 1) := by decide +kernel
theorem dX1_holds_243 : decode cX1_holds 243 = .ok (.ixor, 1) := by decide +kernel
theorem dX1_holds_244 : decode cX1_holds 244 = .ok (.istore 4, 2) := by decide +kernel
theorem dX1_holds_246 : decode cX1_holds 246 = .ok (.goto 55, 3) := by decide +kernel
theorem dX1_holds_249 : decode cX1_holds 249 = .ok (.iload 4, 2) := by decide +kernel
theorem dX1_holds_251 : decode cX1_holds 251 = .ok (.iconst 1, 1) := by decide +kernel
theorem dX1_holds_252 : decode cX1_holds 252 = .ok (.iand, 1) := by decide +kernel
theorem dX1_holds_253 : decode cX1_holds 253 = .ok (.iconst 1, 1) := by decide +kernel
theorem dX1_holds_254 : decode cX1_holds 254 = .ok (.if_icmp .ne 10, 3) := by decide +kernel
theorem dX1_holds_257 : decode cX1_holds 257 = .ok (.iload 4, 2) := by decide +kernel
theorem dX1_holds_259 : decode cX1_holds 259 = .ok (.iconst 1, 1) := by decide +kernel
theorem dX1_holds_260 : decode cX1_holds 260 = .ok (.ishr, 1) := by decide +kernel
theorem dX1_holds_261 : decode cX1_holds 261 = .ok (.goto 10, 3) := by decide +kernel
theorem dX1_holds_264 : decode cX1_holds 264 = .ok (.iload 4, 2) := by decide +kernel
theorem dX1_holds_266 : decode cX1_holds 266 = .ok (.iconst 1, 1) := by decide +kernel
theorem dX1_holds_267 : decode cX1_holds 267 = .ok (.ishr, 1) := by decide +kernel
theorem dX1_holds_268 : decode cX1_holds 268 = .ok (.bipush (-2), 2) := by decide +kernel
theorem dX1_holds_270 : decode cX1_holds 270 = .ok (.iand, 1) := by decide +kernel
theorem dX1_holds_271 : decode cX1_holds 271 = .ok (.istore 4, 2) := by decide +kernel
theorem dX1_holds_273 : decode cX1_holds 273 = .ok (.goto 28, 3) := by decide +kernel
theorem dX1_holds_276 : decode cX1_holds 276 = .ok (.iload 4, 2) := by decide +kernel
theorem dX1_holds_278 : decode cX1_holds 278 = .ok (.iconst 1, 1) := by decide +kernel
theorem dX1_holds_279 : decode cX1_holds 279 = .ok (.ishr, 1) := by decide +kernel
theorem dX1_holds_280 : decode cX1_holds 280 = .ok (.iload 4, 2) := by decide +kernel
theorem dX1_holds_282 : decode cX1_holds 282 = .ok (.iconst 1, 1) := by decide +kernel
theorem dX1_holds_283 : decode cX1_holds 283 = .ok (.iand, 1) := by decide +kernel
theorem dX1_holds_284 : decode cX1_holds 284 = .ok (.ior, 1) := by decide +kernel
theorem dX1_holds_285 : decode cX1_holds 285 = .ok (.istore 4, 2) := by decide +kernel
theorem dX1_holds_287 : decode cX1_holds 287 = .ok (.goto 14, 3) := by decide +kernel
theorem dX1_holds_290 : decode cX1_holds 290 = .ok (.iload 6, 2) := by decide +kernel
theorem dX1_holds_292 : decode cX1_holds 292 = .ok (.iload 8, 2) := by decide +kernel
theorem dX1_holds_294 : decode cX1_holds 294 = .ok (.aload_n 3, 1) := by decide +kernel
theorem dX1_holds_295 : decode cX1_holds 295 = .ok (.invokestatic 74, 3) := by decide +kernel
theorem dX1_holds_298 : decode cX1_holds 298 = .ok (.iadd, 1) := by decide +kernel
theorem dX1_holds_299 : decode cX1_holds 299 = .ok (.istore 6, 2) := by decide +kernel
theorem dX1_holds_301 : decode cX1_holds 301 = .ok (.iinc 7 1, 3) := by decide +kernel
theorem dX1_holds_304 : decode cX1_holds 304 = .ok (.goto (-288), 3) := by decide +kernel
theorem dX1_holds_307 : decode cX1_holds 307 = .ok (.iload 4, 2) := by decide +kernel
theorem dX1_holds_309 : decode cX1_holds 309 = .ok (.iconst 1, 1) := by decide +kernel
theorem dX1_holds_310 : decode cX1_holds 310 = .ok (.iand, 1) := by decide +kernel
theorem dX1_holds_311 : decode cX1_holds 311 = .ok (.iconst 1, 1) := by decide +kernel
theorem dX1_holds_312 : decode cX1_holds 312 = .ok (.if_icmp .ne 7, 3) := by decide +kernel
theorem dX1_holds_315 : decode cX1_holds 315 = .ok (.iconst 1, 1) := by decide +kernel
theorem dX1_holds_316 : decode cX1_holds 316 = .ok (.goto 4, 3) := by decide +kernel
theorem dX1_holds_319 : decode cX1_holds 319 = .ok (.iconst 0, 1) := by decide +kernel
theorem dX1_holds_320 : decode cX1_holds 320 = .ok (.ireturn, 1) := by decide +kernel
theorem dX1_part_0 : decode cX1_part 0 = .ok (.iload_n 0, 1) := by decide +kernel
theorem dX1_part_1 : decode cX1_part 1 = .ok (.lookupswitch 89 #[(1256, 59), (1257, 69), (1260, 64), (1261, 74), (1268, 84), (1276, 79)], 59) := by decide +kernel
theorem dX1_part_60 : decode cX1_part 60 = .ok (.aload_n 1, 1) := by decide +kernel
theorem dX1_part_61 : decode cX1_part 61 = .ok (.getfield 78, 3) := by decide +kernel
theorem dX1_part_64 : decode cX1_part 64 = .ok (.ireturn, 1) := by decide +kernel
theorem dX1_part_65 : decode cX1_part 65 = .ok (.aload_n 1, 1) := by decide +kernel
theorem dX1_part_66 : decode cX1_part 66 = .ok (.getfield 81, 3) := by decide +kernel
theorem dX1_part_69 : decode cX1_part 69 = .ok (.ireturn, 1) := by decide +kernel
theorem dX1_part_70 : decode cX1_part 70 = .ok (.aload_n 1, 1) := by decide +kernel
theorem dX1_part_71 : decode cX1_part 71 = .ok (.getfield 52, 3) := by decide +kernel
theorem dX1_part_74 : decode cX1_part 74 = .ok (.ireturn, 1) := by decide +kernel
theorem dX1_part_75 : decode cX1_part 75 = .ok (.aload_n 1, 1) := by decide +kernel
theorem dX1_part_76 : decode cX1_part 76 = .ok (.getfield 68, 3) := by decide +kernel
theorem dX1_part_79 : decode cX1_part 79 = .ok (.ireturn, 1) := by decide +kernel
theorem dX1_part_80 : decode cX1_part 80 = .ok (.aload_n 1, 1) := by decide +kernel
theorem dX1_part_81 : decode cX1_part 81 = .ok (.getfield 84, 3) := by decide +kernel
theorem dX1_part_84 : decode cX1_part 84 = .ok (.ireturn, 1) := by decide +kernel
theorem dX1_part_85 : decode cX1_part 85 = .ok (.aload_n 1, 1) := by decide +kernel
theorem dX1_part_86 : decode cX1_part 86 = .ok (.getfield 87, 3) := by decide +kernel
theorem dX1_part_89 : decode cX1_part 89 = .ok (.ireturn, 1) := by decide +kernel
theorem dX1_part_90 : decode cX1_part 90 = .ok (.iconst 0, 1) := by decide +kernel
theorem dX1_part_91 : decode cX1_part 91 = .ok (.ireturn, 1) := by decide +kernel
theorem dX2_reads_0 : decode cX2_reads 0 = .ok (.aload_n 1, 1) := by decide +kernel
theorem dX2_reads_1 : decode cX2_reads 1 = .ok (.invokevirtual 9, 3) := by decide +kernel
theorem dX2_reads_4 : decode cX2_reads 4 = .ok (.aload_n 0, 1) := by decide +kernel
theorem dX2_reads_5 : decode cX2_reads 5 = .ok (.invokevirtual 14, 3) := by decide +kernel
theorem dX2_reads_8 : decode cX2_reads 8 = .ok (.sipush 303, 3) := by decide +kernel
theorem dX2_reads_11 : decode cX2_reads 11 = .ok (.if_icmp .ne 5, 3) := by decide +kernel
theorem dX2_reads_14 : decode cX2_reads 14 = .ok (.iconst 1, 1) := by decide +kernel
theorem dX2_reads_15 : decode cX2_reads 15 = .ok (.ireturn, 1) := by decide +kernel
theorem dX2_reads_16 : decode cX2_reads 16 = .ok (.iconst 0, 1) := by decide +kernel
theorem dX2_reads_17 : decode cX2_reads 17 = .ok (.istore_n 2, 1) := by decide +kernel
theorem dX2_reads_18 : decode cX2_reads 18 = .ok (.iload_n 2, 1) := by decide +kernel
theorem dX2_reads_19 : decode cX2_reads 19 = .ok (.bipush 12, 2) := by decide +kernel
theorem dX2_reads_21 : decode cX2_reads 21 = .ok (.if_icmp .ge 42, 3) := by decide +kernel
theorem dX2_reads_24 : decode cX2_reads 24 = .ok (.aload_n 0, 1) := by decide +kernel
theorem dX2_reads_25 : decode cX2_reads 25 = .ok (.aload_n 1, 1) := by decide +kernel
theorem dX2_reads_26 : decode cX2_reads 26 = .ok (.invokestatic 20, 3) := by decide +kernel
theorem dX2_reads_29 : decode cX2_reads 29 = .ok (.ifCond .ne 5, 3) := by decide +kernel
theorem dX2_reads_32 : decode cX2_reads 32 = .ok (.iconst 0, 1) := by decide +kernel
theorem dX2_reads_33 : decode cX2_reads 33 = .ok (.ireturn, 1) := by decide +kernel
theorem dX2_reads_34 : decode cX2_reads 34 = .ok (.aload_n 0, 1) := by decide +kernel
theorem dX2_reads_35 : decode cX2_reads 35 = .ok (.invokevirtual 14, 3) := by decide +kernel
theorem dX2_reads_38 : decode cX2_reads 38 = .ok (.sipush 303, 3) := by decide +kernel
theorem dX2_reads_41 : decode cX2_reads 41 = .ok (.if_icmp .ne 5, 3) := by decide +kernel
theorem dX2_reads_44 : decode cX2_reads 44 = .ok (.iconst 1, 1) := by decide +kernel
theorem dX2_reads_45 : decode cX2_reads 45 = .ok (.ireturn, 1) := by decide +kernel
theorem dX2_reads_46 : decode cX2_reads 46 = .ok (.aload_n 0, 1) := by decide +kernel
theorem dX2_reads_47 : decode cX2_reads 47 = .ok (.bipush 59, 2) := by decide +kernel
theorem dX2_reads_49 : decode cX2_reads 49 = .ok (.invokevirtual 26, 3) := by decide +kernel
theorem dX2_reads_52 : decode cX2_reads 52 = .ok (.ifCond .ne 5, 3) := by decide +kernel
theorem dX2_reads_55 : decode cX2_reads 55 = .ok (.iconst 0, 1) := by decide +kernel
theorem dX2_reads_56 : decode cX2_reads 56 = .ok (.ireturn, 1) := by decide +kernel
theorem dX2_reads_57 : decode cX2_reads 57 = .ok (.iinc 2 1, 3) := by decide +kernel
theorem dX2_reads_60 : decode cX2_reads 60 = .ok (.goto (-42), 3) := by decide +kernel
theorem dX2_reads_63 : decode cX2_reads 63 = .ok (.iconst 0, 1) := by decide +kernel
theorem dX2_reads_64 : decode cX2_reads 64 = .ok (.ireturn, 1) := by decide +kernel
theorem dX2_readsLine_0 : decode cX2_readsLine 0 = .ok (.aload_n 0, 1) := by decide +kernel
theorem dX2_readsLine_1 : decode cX2_readsLine 1 = .ok (.invokevirtual 14, 3) := by decide +kernel
theorem dX2_readsLine_4 : decode cX2_readsLine 4 = .ok (.istore_n 2, 1) := by decide +kernel
theorem dX2_readsLine_5 : decode cX2_readsLine 5 = .ok (.iload_n 2, 1) := by decide +kernel
theorem dX2_readsLine_6 : decode cX2_readsLine 6 = .ok (.sipush 269, 3) := by decide +kernel
theorem dX2_readsLine_9 : decode cX2_readsLine 9 = .ok (.if_icmp .eq 17, 3) := by decide +kernel
theorem dX2_readsLine_12 : decode cX2_readsLine 12 = .ok (.iload_n 2, 1) := by decide +kernel
theorem dX2_readsLine_13 : decode cX2_readsLine 13 = .ok (.sipush 270, 3) := by decide +kernel
theorem dX2_readsLine_16 : decode cX2_readsLine 16 = .ok (.if_icmp .eq 10, 3) := by decide +kernel
theorem dX2_readsLine_19 : decode cX2_readsLine 19 = .ok (.iload_n 2, 1) := by decide +kernel
theorem dX2_readsLine_20 : decode cX2_readsLine 20 = .ok (.sipush 262, 3) := by decide +kernel
theorem dX2_readsLine_23 : decode cX2_readsLine 23 = .ok (.if_icmp .ne 11, 3) := by decide +kernel
theorem dX2_readsLine_26 : decode cX2_readsLine 26 = .ok (.aload_n 0, 1) := by decide +kernel
theorem dX2_readsLine_27 : decode cX2_readsLine 27 = .ok (.iload_n 2, 1) := by decide +kernel
theorem dX2_readsLine_28 : decode cX2_readsLine 28 = .ok (.invokevirtual 26, 3) := by decide +kernel
theorem dX2_readsLine_31 : decode cX2_readsLine 31 = .ok (.ifCond .ne 5, 3) := by decide +kernel
theorem dX2_readsLine_34 : decode cX2_readsLine 34 = .ok (.iconst 0, 1) := by decide +kernel
theorem dX2_readsLine_35 : decode cX2_readsLine 35 = .ok (.ireturn, 1) := by decide +kernel
theorem dX2_readsLine_36 : decode cX2_readsLine 36 = .ok (.aload_n 0, 1) := by decide +kernel
theorem dX2_readsLine_37 : decode cX2_readsLine 37 = .ok (.iconst 0, 1) := by decide +kernel
theorem dX2_readsLine_38 : decode cX2_readsLine 38 = .ok (.bipush 30, 2) := by decide +kernel
theorem dX2_readsLine_40 : decode cX2_readsLine 40 = .ok (.invokevirtual 30, 3) := by decide +kernel
theorem dX2_readsLine_43 : decode cX2_readsLine 43 = .ok (.istore_n 3, 1) := by decide +kernel
theorem dX2_readsLine_44 : decode cX2_readsLine 44 = .ok (.iload_n 3, 1) := by decide +kernel
theorem dX2_readsLine_45 : decode cX2_readsLine 45 = .ok (.iconst (-1), 1) := by decide +kernel
theorem dX2_readsLine_46 : decode cX2_readsLine 46 = .ok (.if_icmp .ne 5, 3) := by decide +kernel
theorem dX2_readsLine_49 : decode cX2_readsLine 49 = .ok (.iconst 0, 1) := by decide +kernel
theorem dX2_readsLine_50 : decode cX2_readsLine 50 = .ok (.ireturn, 1) := by decide +kernel
theorem dX2_readsLine_51 : decode cX2_readsLine 51 = .ok (.aload_n 1, 1) := by decide +kernel
theorem dX2_readsLine_52 : decode cX2_readsLine 52 = .ok (.getfield 34, 3) := by decide +kernel
theorem dX2_readsLine_55 : decode cX2_readsLine 55 = .ok (.istore 4, 2) := by decide +kernel
theorem dX2_readsLine_57 : decode cX2_readsLine 57 = .ok (.aload_n 0, 1) := by decide +kernel
theorem dX2_readsLine_58 : decode cX2_readsLine 58 = .ok (.sipush 271, 3) := by decide +kernel
theorem dX2_readsLine_61 : decode cX2_readsLine 61 = .ok (.invokevirtual 26, 3) := by decide +kernel
theorem dX2_readsLine_64 : decode cX2_readsLine 64 = .ok (.ifCond .eq 14, 3) := by decide +kernel
theorem dX2_readsLine_67 : decode cX2_readsLine 67 = .ok (.aload_n 0, 1) := by decide +kernel
theorem dX2_readsLine_68 : decode cX2_readsLine 68 = .ok (.aload_n 1, 1) := by decide +kernel
theorem dX2_readsLine_69 : decode cX2_readsLine 69 = .ok (.iconst 0, 1) := by decide +kernel
theorem dX2_readsLine_70 : decode cX2_readsLine 70 = .ok (.invokestatic 38, 3) := by decide +kernel
theorem dX2_readsLine_73 : decode cX2_readsLine 73 = .ok (.ifCond .ne 5, 3) := by decide +kernel
theorem dX2_readsLine_76 : decode cX2_readsLine 76 = .ok (.iconst 0, 1) := by decide +kernel
theorem dX2_readsLine_77 : decode cX2_readsLine 77 = .ok (.ireturn, 1) := by decide +kernel
theorem dX2_readsLine_78 : decode cX2_readsLine 78 = .ok (.aload_n 1, 1) := by decide +kernel
theorem dX2_readsLine_79 : decode cX2_readsLine 79 = .ok (.iload_n 2, 1) := by decide +kernel
theorem dX2_readsLine_80 : decode cX2_readsLine 80 = .ok (.iload_n 3, 1) := by decide +kernel
theorem dX2_readsLine_81 : decode cX2_readsLine 81 = .ok (.iload 4, 2) := by decide +kernel
theorem dX2_readsLine_83 : decode cX2_readsLine 83 = .ok (.invokevirtual 42, 3) := by decide +kernel
theorem dX2_readsLine_86 : decode cX2_readsLine 86 = .ok (.iconst 1, 1) := by decide +kernel
theorem dX2_readsLine_87 : decode cX2_readsLine 87 = .ok (.ireturn, 1) := by decide +kernel
theorem dX2_readsCondition_0 : decode cX2_readsCondition 0 = .ok (.aload_n 0, 1) := by decide +kernel
theorem dX2_readsCondition_1 : decode cX2_readsCondition 1 = .ok (.aload_n 1, 1) := by decide +kernel
theorem dX2_readsCondition_2 : decode cX2_readsCondition 2 = .ok (.iload_n 2, 1) := by decide +kernel
theorem dX2_readsCondition_3 : decode cX2_readsCondition 3 = .ok (.invokestatic 46, 3) := by decide +kernel
theorem dX2_readsCondition_6 : decode cX2_readsCondition 6 = .ok (.ifCond .ne 5, 3) := by decide +kernel
theorem dX2_readsCondition_9 : decode cX2_readsCondition 9 = .ok (.iconst 0, 1) := by decide +kernel
theorem dX2_readsCondition_10 : decode cX2_readsCondition 10 = .ok (.ireturn, 1) := by decide +kernel
theorem dX2_readsCondition_11 : decode cX2_readsCondition 11 = .ok (.iconst 0, 1) := by decide +kernel
theorem dX2_readsCondition_12 : decode cX2_readsCondition 12 = .ok (.istore_n 3, 1) := by decide +kernel
theorem dX2_readsCondition_13 : decode cX2_readsCondition 13 = .ok (.iload_n 3, 1) := by decide +kernel
theorem dX2_readsCondition_14 : decode cX2_readsCondition 14 = .ok (.sipush 400, 3) := by decide +kernel
theorem dX2_readsCondition_17 : decode cX2_readsCondition 17 = .ok (.if_icmp .ge 37, 3) := by decide +kernel
theorem dX2_readsCondition_20 : decode cX2_readsCondition 20 = .ok (.aload_n 0, 1) := by decide +kernel
theorem dX2_readsCondition_21 : decode cX2_readsCondition 21 = .ok (.sipush 272, 3) := by decide +kernel
theorem dX2_readsCondition_24 : decode cX2_readsCondition 24 = .ok (.invokevirtual 26, 3) := by decide +kernel
theorem dX2_readsCondition_27 : decode cX2_readsCondition 27 = .ok (.ifCond .eq 27, 3) := by decide +kernel
theorem dX2_readsCondition_30 : decode cX2_readsCondition 30 = .ok (.aload_n 0, 1) := by decide +kernel
theorem dX2_readsCondition_31 : decode cX2_readsCondition 31 = .ok (.aload_n 1, 1) := by decide +kernel
theorem dX2_readsCondition_32 : decode cX2_readsCondition 32 = .ok (.iload_n 2, 1) := by decide +kernel
theorem dX2_readsCondition_33 : decode cX2_readsCondition 33 = .ok (.invokestatic 46, 3) := by decide +kernel
theorem dX2_readsCondition_36 : decode cX2_readsCondition 36 = .ok (.ifCond .ne 5, 3) := by decide +kernel
theorem dX2_readsCondition_39 : decode cX2_readsCondition 39 = .ok (.iconst 0, 1) := by decide +kernel
theorem dX2_readsCondition_40 : decode cX2_readsCondition 40 = .ok (.ireturn, 1) := by decide +kernel
theorem dX2_readsCondition_41 : decode cX2_readsCondition 41 = .ok (.aload_n 1, 1) := by decide +kernel
theorem dX2_readsCondition_42 : decode cX2_readsCondition 42 = .ok (.sipush 1272, 3) := by decide +kernel
theorem dX2_readsCondition_45 : decode cX2_readsCondition 45 = .ok (.invokevirtual 49, 3) := by decide +kernel
theorem dX2_readsCondition_48 : decode cX2_readsCondition 48 = .ok (.iinc 3 1, 3) := by decide +kernel
theorem dX2_readsCondition_51 : decode cX2_readsCondition 51 = .ok (.goto (-38), 3) := by decide +kernel
theorem dX2_readsCondition_54 : decode cX2_readsCondition 54 = .ok (.iconst 1, 1) := by decide +kernel
theorem dX2_readsCondition_55 : decode cX2_readsCondition 55 = .ok (.ireturn, 1) := by decide +kernel
theorem dX2_readsAll_0 : decode cX2_readsAll 0 = .ok (.aload_n 0, 1) := by decide +kernel
theorem dX2_readsAll_1 : decode cX2_readsAll 1 = .ok (.aload_n 1, 1) := by decide +kernel
theorem dX2_readsAll_2 : decode cX2_readsAll 2 = .ok (.iload_n 2, 1) := by decide +kernel
theorem dX2_readsAll_3 : decode cX2_readsAll 3 = .ok (.invokestatic 53, 3) := by decide +kernel
theorem dX2_readsAll_6 : decode cX2_readsAll 6 = .ok (.ifCond .ne 5, 3) := by decide +kernel
theorem dX2_readsAll_9 : decode cX2_readsAll 9 = .ok (.iconst 0, 1) := by decide +kernel
theorem dX2_readsAll_10 : decode cX2_readsAll 10 = .ok (.ireturn, 1) := by decide +kernel
theorem dX2_readsAll_11 : decode cX2_readsAll 11 = .ok (.iconst 0, 1) := by decide +kernel
theorem dX2_readsAll_12 : decode cX2_readsAll 12 = .ok (.istore_n 3, 1) := by decide +kernel
theorem dX2_readsAll_13 : decode cX2_readsAll 13 = .ok (.iload_n 3, 1) := by decide +kernel
theorem dX2_readsAll_14 : decode cX2_readsAll 14 = .ok (.sipush 400, 3) := by decide +kernel
theorem dX2_readsAll_17 : decode cX2_readsAll 17 = .ok (.if_icmp .ge 37, 3) := by decide +kernel
theorem dX2_readsAll_20 : decode cX2_readsAll 20 = .ok (.aload_n 0, 1) := by decide +kernel
theorem dX2_readsAll_21 : decode cX2_readsAll 21 = .ok (.sipush 273, 3) := by decide +kernel
theorem dX2_readsAll_24 : decode cX2_readsAll 24 = .ok (.invokevirtual 26, 3) := by decide +kernel
theorem dX2_readsAll_27 : decode cX2_readsAll 27 = .ok (.ifCond .eq 27, 3) := by decide +kernel
theorem dX2_readsAll_30 : decode cX2_readsAll 30 = .ok (.aload_n 0, 1) := by decide +kernel
theorem dX2_readsAll_31 : decode cX2_readsAll 31 = .ok (.aload_n 1, 1) := by decide +kernel
theorem dX2_readsAll_32 : decode cX2_readsAll 32 = .ok (.iload_n 2, 1) := by decide +kernel
theorem dX2_readsAll_33 : decode cX2_readsAll 33 = .ok (.invokestatic 53, 3) := by decide +kernel
theorem dX2_readsAll_36 : decode cX2_readsAll 36 = .ok (.ifCond .ne 5, 3) := by decide +kernel
theorem dX2_readsAll_39 : decode cX2_readsAll 39 = .ok (.iconst 0, 1) := by decide +kernel
theorem dX2_readsAll_40 : decode cX2_readsAll 40 = .ok (.ireturn, 1) := by decide +kernel
theorem dX2_readsAll_41 : decode cX2_readsAll 41 = .ok (.aload_n 1, 1) := by decide +kernel
theorem dX2_readsAll_42 : decode cX2_readsAll 42 = .ok (.sipush 1273, 3) := by decide +kernel
theorem dX2_readsAll_45 : decode cX2_readsAll 45 = .ok (.invokevirtual 49, 3) := by decide +kernel
theorem dX2_readsAll_48 : decode cX2_readsAll 48 = .ok (.iinc 3 1, 3) := by decide +kernel
theorem dX2_readsAll_51 : decode cX2_readsAll 51 = .ok (.goto (-38), 3) := by decide +kernel
theorem dX2_readsAll_54 : decode cX2_readsAll 54 = .ok (.iconst 1, 1) := by decide +kernel
theorem dX2_readsAll_55 : decode cX2_readsAll 55 = .ok (.ireturn, 1) := by decide +kernel
theorem dX2_readsAtom_0 : decode cX2_readsAtom 0 = .ok (.iload_n 2, 1) := by decide +kernel
theorem dX2_readsAtom_1 : decode cX2_readsAtom 1 = .ok (.bipush 6, 2) := by decide +kernel
theorem dX2_readsAtom_3 : decode cX2_readsAtom 3 = .ok (.if_icmp .ge 35, 3) := by decide +kernel
theorem dX2_readsAtom_6 : decode cX2_readsAtom 6 = .ok (.aload_n 0, 1) := by decide +kernel
theorem dX2_readsAtom_7 : decode cX2_readsAtom 7 = .ok (.sipush 274, 3) := by decide +kernel
theorem dX2_readsAtom_10 : decode cX2_readsAtom 10 = .ok (.invokevirtual 26, 3) := by decide +kernel
theorem dX2_readsAtom_13 : decode cX2_readsAtom 13 = .ok (.ifCond .eq 25, 3) := by decide +kernel
theorem dX2_readsAtom_16 : decode cX2_readsAtom 16 = .ok (.aload_n 0, 1) := by decide +kernel
theorem dX2_readsAtom_17 : decode cX2_readsAtom 17 = .ok (.aload_n 1, 1) := by decide +kernel
theorem dX2_readsAtom_18 : decode cX2_readsAtom 18 = .ok (.iload_n 2, 1) := by decide +kernel
theorem dX2_readsAtom_19 : decode cX2_readsAtom 19 = .ok (.iconst 1, 1) := by decide +kernel
theorem dX2_readsAtom_20 : decode cX2_readsAtom 20 = .ok (.iadd, 1) := by decide +kernel
theorem dX2_readsAtom_21 : decode cX2_readsAtom 21 = .ok (.invokestatic 53, 3) := by decide +kernel
theorem dX2_readsAtom_24 : decode cX2_readsAtom 24 = .ok (.ifCond .ne 5, 3) := by decide +kernel
theorem dX2_readsAtom_27 : decode cX2_readsAtom 27 = .ok (.iconst 0, 1) := by decide +kernel
theorem dX2_readsAtom_28 : decode cX2_readsAtom 28 = .ok (.ireturn, 1) := by decide +kernel
theorem dX2_readsAtom_29 : decode cX2_readsAtom 29 = .ok (.aload_n 1, 1) := by decide +kernel
theorem dX2_readsAtom_30 : decode cX2_readsAtom 30 = .ok (.sipush 1274, 3) := by decide +kernel
theorem dX2_readsAtom_33 : decode cX2_readsAtom 33 = .ok (.invokevirtual 49, 3) := by decide +kernel
theorem dX2_readsAtom_36 : decode cX2_readsAtom 36 = .ok (.iconst 1, 1) := by decide +kernel
theorem dX2_readsAtom_37 : decode cX2_readsAtom 37 = .ok (.ireturn, 1) := by decide +kernel
theorem dX2_readsAtom_38 : decode cX2_readsAtom 38 = .ok (.iload_n 2, 1) := by decide +kernel
theorem dX2_readsAtom_39 : decode cX2_readsAtom 39 = .ok (.bipush 6, 2) := by decide +kernel
theorem dX2_readsAtom_41 : decode cX2_readsAtom 41 = .ok (.if_icmp .ge 38, 3) := by decide +kernel
theorem dX2_readsAtom_44 : decode cX2_readsAtom 44 = .ok (.aload_n 0, 1) := by decide +kernel
theorem dX2_readsAtom_45 : decode cX2_readsAtom 45 = .ok (.bipush 40, 2) := by decide +kernel
theorem dX2_readsAtom_47 : decode cX2_readsAtom 47 = .ok (.invokevirtual 26, 3) := by decide +kernel
theorem dX2_readsAtom_50 : decode cX2_readsAtom 50 = .ok (.ifCond .eq 29, 3) := by decide +kernel
theorem dX2_readsAtom_53 : decode cX2_readsAtom 53 = .ok (.aload_n 0, 1) := by decide +kernel
theorem dX2_readsAtom_54 : decode cX2_readsAtom 54 = .ok (.aload_n 1, 1) := by decide +kernel
theorem dX2_readsAtom_55 : decode cX2_readsAtom 55 = .ok (.iload_n 2, 1) := by decide +kernel
theorem dX2_readsAtom_56 : decode cX2_readsAtom 56 = .ok (.iconst 1, 1) := by decide +kernel
theorem dX2_readsAtom_57 : decode cX2_readsAtom 57 = .ok (.iadd, 1) := by decide +kernel
theorem dX2_readsAtom_58 : decode cX2_readsAtom 58 = .ok (.invokestatic 38, 3) := by decide +kernel
theorem dX2_readsAtom_61 : decode cX2_readsAtom 61 = .ok (.ifCond .eq 16, 3) := by decide +kernel
theorem dX2_readsAtom_64 : decode cX2_readsAtom 64 = .ok (.aload_n 0, 1) := by decide +kernel
theorem dX2_readsAtom_65 : decode cX2_readsAtom 65 = .ok (.bipush 41, 2) := by decide +kernel
theorem dX2_readsAtom_67 : decode cX2_readsAtom 67 = .ok (.invokevirtual 26, 3) := by decide +kernel
theorem dX2_readsAtom_70 : decode cX2_readsAtom 70 = .ok (.ifCond .eq 7, 3) := by decide +kernel
theorem dX2_readsAtom_73 : decode cX2_readsAtom 73 = .ok (.iconst 1, 1) := by decide +kernel
theorem dX2_readsAtom_74 : decode cX2_readsAtom 74 = .ok (.goto 4, 3) := by decide +kernel
theorem dX2_readsAtom_77 : decode cX2_readsAtom 77 = .ok (.iconst 0, 1) := by decide +kernel
theorem dX2_readsAtom_78 : decode cX2_readsAtom 78 = .ok (.ireturn, 1) := by decide +kernel
theorem dX2_readsAtom_79 : decode cX2_readsAtom 79 = .ok (.aload_n 0, 1) := by decide +kernel
theorem dX2_readsAtom_80 : decode cX2_readsAtom 80 = .ok (.invokevirtual 14, 3) := by decide +kernel
theorem dX2_readsAtom_83 : decode cX2_readsAtom 83 = .ok (.istore_n 3, 1) := by decide +kernel
theorem dX2_readsAtom_84 : decode cX2_readsAtom 84 = .ok (.iload_n 3, 1) := by decide +kernel
theorem dX2_readsAtom_85 : decode cX2_readsAtom 85 = .ok (.sipush 259, 3) := by decide +kernel
theorem dX2_readsAtom_88 : decode cX2_readsAtom 88 = .ok (.if_icmp .eq 10, 3) := by decide +kernel
theorem dX2_readsAtom_91 : decode cX2_readsAtom 91 = .ok (.iload_n 3, 1) := by decide +kernel
theorem dX2_readsAtom_92 : decode cX2_readsAtom 92 = .ok (.sipush 275, 3) := by decide +kernel
theorem dX2_readsAtom_95 : decode cX2_readsAtom 95 = .ok (.if_icmp .ne 18, 3) := by decide +kernel
theorem dX2_readsAtom_98 : decode cX2_readsAtom 98 = .ok (.aload_n 1, 1) := by decide +kernel
theorem dX2_readsAtom_99 : decode cX2_readsAtom 99 = .ok (.sipush 1000, 3) := by decide +kernel
theorem dX2_readsAtom_102 : decode cX2_readsAtom 102 = .ok (.iload_n 3, 1) := by decide +kernel
theorem dX2_readsAtom_103 : decode cX2_readsAtom 103 = .ok (.iadd, 1) := by decide +kernel
theorem dX2_readsAtom_104 : decode cX2_readsAtom 104 = .ok (.invokevirtual 49, 3) := by decide +kernel
theorem dX2_readsAtom_107 : decode cX2_readsAtom 107 = .ok (.aload_n 0, 1) := by decide +kernel
theorem dX2_readsAtom_108 : decode cX2_readsAtom 108 = .ok (.iload_n 3, 1) := by decide +kernel
theorem dX2_readsAtom_109 : decode cX2_readsAtom 109 = .ok (.invokevirtual 26, 3) := by decide +kernel
theorem dX2_readsAtom_112 : decode cX2_readsAtom 112 = .ok (.ireturn, 1) := by decide +kernel
theorem dX2_readsAtom_113 : decode cX2_readsAtom 113 = .ok (.aload_n 0, 1) := by decide +kernel
theorem dX2_readsAtom_114 : decode cX2_readsAtom 114 = .ok (.aload_n 1, 1) := by decide +kernel
theorem dX2_readsAtom_115 : decode cX2_readsAtom 115 = .ok (.invokestatic 56, 3) := by decide +kernel
theorem dX2_readsAtom_118 : decode cX2_readsAtom 118 = .ok (.ifCond .ne 5, 3) := by decide +kernel
theorem dX2_readsAtom_121 : decode cX2_readsAtom 121 = .ok (.iconst 0, 1) := by decide +kernel
theorem dX2_readsAtom_122 : decode cX2_readsAtom 122 = .ok (.ireturn, 1) := by decide +kernel
theorem dX2_readsAtom_123 : decode cX2_readsAtom 123 = .ok (.aload_n 0, 1) := by decide +kernel
theorem dX2_readsAtom_124 : decode cX2_readsAtom 124 = .ok (.invokevirtual 14, 3) := by decide +kernel
theorem dX2_readsAtom_127 : decode cX2_readsAtom 127 = .ok (.istore 4, 2) := by decide +kernel
theorem dX2_readsAtom_129 : decode cX2_readsAtom 129 = .ok (.iload 4, 2) := by decide +kernel
theorem dX2_readsAtom_131 : decode cX2_readsAtom 131 = .ok (.bipush 60, 2) := by decide +kernel
theorem dX2_readsAtom_133 : decode cX2_readsAtom 133 = .ok (.if_icmp .eq 10, 3) := by decide +kernel
theorem dX2_readsAtom_136 : decode cX2_readsAtom 136 = .ok (.iload 4, 2) := by decide +kernel
theorem dX2_readsAtom_138 : decode cX2_readsAtom 138 = .ok (.bipush 62, 2) := by decide +kernel
theorem dX2_readsAtom_140 : decode cX2_readsAtom 140 = .ok (.if_icmp .ne 12, 3) := by decide +kernel
theorem dX2_readsAtom_143 : decode cX2_readsAtom 143 = .ok (.aload_n 0, 1) := by decide +kernel
theorem dX2_readsAtom_144 : decode cX2_readsAtom 144 = .ok (.iload 4, 2) := by decide +kernel
theorem dX2_readsAtom_146 : decode cX2_readsAtom 146 = .ok (.invokevirtual 26, 3) := by decide +kernel
theorem dX2_readsAtom_149 : decode cX2_readsAtom 149 = .ok (.ifCond .ne 5, 3) := by decide +kernel
theorem dX2_readsAtom_152 : decode cX2_readsAtom 152 = .ok (.iconst 0, 1) := by decide +kernel
theorem dX2_readsAtom_153 : decode cX2_readsAtom 153 = .ok (.ireturn, 1) := by decide +kernel
theorem dX2_readsAtom_154 : decode cX2_readsAtom 154 = .ok (.aload_n 1, 1) := by decide +kernel
theorem dX2_readsAtom_155 : decode cX2_readsAtom 155 = .ok (.sipush 1001, 3) := by decide +kernel
theorem dX2_readsAtom_158 : decode cX2_readsAtom 158 = .ok (.invokevirtual 49, 3) := by decide +kernel
theorem dX2_readsAtom_161 : decode cX2_readsAtom 161 = .ok (.aload_n 0, 1) := by decide +kernel
theorem dX2_readsAtom_162 : decode cX2_readsAtom 162 = .ok (.aload_n 1, 1) := by decide +kernel
theorem dX2_readsAtom_163 : decode cX2_readsAtom 163 = .ok (.invokestatic 56, 3) := by decide +kernel
theorem dX2_readsAtom_166 : decode cX2_readsAtom 166 = .ok (.ifCond .ne 5, 3) := by decide +kernel
theorem dX2_readsAtom_169 : decode cX2_readsAtom 169 = .ok (.iconst 0, 1) := by decide +kernel
theorem dX2_readsAtom_170 : decode cX2_readsAtom 170 = .ok (.ireturn, 1) := by decide +kernel
theorem dX2_readsAtom_171 : decode cX2_readsAtom 171 = .ok (.aload_n 1, 1) := by decide +kernel
theorem dX2_readsAtom_172 : decode cX2_readsAtom 172 = .ok (.iload 4, 2) := by decide +kernel
theorem dX2_readsAtom_174 : decode cX2_readsAtom 174 = .ok (.bipush 60, 2) := by decide +kernel
theorem dX2_readsAtom_176 : decode cX2_readsAtom 176 = .ok (.if_icmp .ne 9, 3) := by decide +kernel
theorem dX2_readsAtom_179 : decode cX2_readsAtom 179 = .ok (.sipush 1002, 3) := by decide +kernel
theorem dX2_readsAtom_182 : decode cX2_readsAtom 182 = .ok (.goto 6, 3) := by decide +kernel
theorem dX2_readsAtom_185 : decode cX2_readsAtom 185 = .ok (.sipush 1003, 3) := by decide +kernel
theorem dX2_readsAtom_188 : decode cX2_readsAtom 188 = .ok (.invokevirtual 49, 3) := by decide +kernel
theorem dX2_readsAtom_191 : decode cX2_readsAtom 191 = .ok (.iconst 1, 1) := by decide +kernel
theorem dX2_readsAtom_192 : decode cX2_readsAtom 192 = .ok (.ireturn, 1) := by decide +kernel
theorem dX2_readsSum_0 : decode cX2_readsSum 0 = .ok (.iconst 0, 1) := by decide +kernel
theorem dX2_readsSum_1 : decode cX2_readsSum 1 = .ok (.istore_n 2, 1) := by decide +kernel
theorem dX2_readsSum_2 : decode cX2_readsSum 2 = .ok (.iload_n 2, 1) := by decide +kernel
theorem dX2_readsSum_3 : decode cX2_readsSum 3 = .ok (.sipush 400, 3) := by decide +kernel
theorem dX2_readsSum_6 : decode cX2_readsSum 6 = .ok (.if_icmp .ge 109, 3) := by decide +kernel
theorem dX2_readsSum_9 : decode cX2_readsSum 9 = .ok (.aload_n 0, 1) := by decide +kernel
theorem dX2_readsSum_10 : decode cX2_readsSum 10 = .ok (.invokevirtual 14, 3) := by decide +kernel
theorem dX2_readsSum_13 : decode cX2_readsSum 13 = .ok (.istore_n 3, 1) := by decide +kernel
theorem dX2_readsSum_14 : decode cX2_readsSum 14 = .ok (.iload_n 3, 1) := by decide +kernel
theorem dX2_readsSum_15 : decode cX2_readsSum 15 = .ok (.sipush 301, 3) := by decide +kernel
theorem dX2_readsSum_18 : decode cX2_readsSum 18 = .ok (.if_icmp .ne 18, 3) := by decide +kernel
theorem dX2_readsSum_21 : decode cX2_readsSum 21 = .ok (.aload_n 1, 1) := by decide +kernel
theorem dX2_readsSum_22 : decode cX2_readsSum 22 = .ok (.aload_n 0, 1) := by decide +kernel
theorem dX2_readsSum_23 : decode cX2_readsSum 23 = .ok (.iconst 0, 1) := by decide +kernel
theorem dX2_readsSum_24 : decode cX2_readsSum 24 = .ok (.sipush 999, 3) := by decide +kernel
theorem dX2_readsSum_27 : decode cX2_readsSum 27 = .ok (.invokevirtual 30, 3) := by decide +kernel
theorem dX2_readsSum_30 : decode cX2_readsSum 30 = .ok (.invokevirtual 49, 3) := by decide +kernel
theorem dX2_readsSum_33 : decode cX2_readsSum 33 = .ok (.goto 65, 3) := by decide +kernel
theorem dX2_readsSum_36 : decode cX2_readsSum 36 = .ok (.iload_n 3, 1) := by decide +kernel
theorem dX2_readsSum_37 : decode cX2_readsSum 37 = .ok (.sipush 256, 3) := by decide +kernel
theorem dX2_readsSum_40 : decode cX2_readsSum 40 = .ok (.if_icmp .eq 38, 3) := by decide +kernel
theorem dX2_readsSum_43 : decode cX2_readsSum 43 = .ok (.iload_n 3, 1) := by decide +kernel
theorem dX2_readsSum_44 : decode cX2_readsSum 44 = .ok (.sipush 260, 3) := by decide +kernel
theorem dX2_readsSum_47 : decode cX2_readsSum 47 = .ok (.if_icmp .eq 31, 3) := by decide +kernel
theorem dX2_readsSum_50 : decode cX2_readsSum 50 = .ok (.iload_n 3, 1) := by decide +kernel
theorem dX2_readsSum_51 : decode cX2_readsSum 51 = .ok (.sipush 257, 3) := by decide +kernel
theorem dX2_readsSum_54 : decode cX2_readsSum 54 = .ok (.if_icmp .eq 24, 3) := by decide +kernel
theorem dX2_readsSum_57 : decode cX2_readsSum 57 = .ok (.iload_n 3, 1) := by decide +kernel
theorem dX2_readsSum_58 : decode cX2_readsSum 58 = .ok (.sipush 261, 3) := by decide +kernel
theorem dX2_readsSum_61 : decode cX2_readsSum 61 = .ok (.if_icmp .eq 17, 3) := by decide +kernel
theorem dX2_readsSum_64 : decode cX2_readsSum 64 = .ok (.iload_n 3, 1) := by decide +kernel
theorem dX2_readsSum_65 : decode cX2_readsSum 65 = .ok (.sipush 276, 3) := by decide +kernel
theorem dX2_readsSum_68 : decode cX2_readsSum 68 = .ok (.if_icmp .eq 10, 3) := by decide +kernel
theorem dX2_readsSum_71 : decode cX2_readsSum 71 = .ok (.iload_n 3, 1) := by decide +kernel
theorem dX2_readsSum_72 : decode cX2_readsSum 72 = .ok (.sipush 268, 3) := by decide +kernel
theorem dX2_readsSum_75 : decode cX2_readsSum 75 = .ok (.if_icmp .ne 21, 3) := by decide +kernel
theorem dX2_readsSum_78 : decode cX2_readsSum 78 = .ok (.aload_n 1, 1) := by decide +kernel
theorem dX2_readsSum_79 : decode cX2_readsSum 79 = .ok (.sipush 1000, 3) := by decide +kernel
theorem dX2_readsSum_82 : decode cX2_readsSum 82 = .ok (.iload_n 3, 1) := by decide +kernel
theorem dX2_readsSum_83 : decode cX2_readsSum 83 = .ok (.iadd, 1) := by decide +kernel
theorem dX2_readsSum_84 : decode cX2_readsSum 84 = .ok (.invokevirtual 49, 3) := by decide +kernel
theorem dX2_readsSum_87 : decode cX2_readsSum 87 = .ok (.aload_n 0, 1) := by decide +kernel
theorem dX2_readsSum_88 : decode cX2_readsSum 88 = .ok (.iload_n 3, 1) := by decide +kernel
theorem dX2_readsSum_89 : decode cX2_readsSum 89 = .ok (.invokevirtual 26, 3) := by decide +kernel
theorem dX2_readsSum_92 : decode cX2_readsSum 92 = .ok (.pop, 1) := by decide +kernel
theorem dX2_readsSum_93 : decode cX2_readsSum 93 = .ok (.goto 5, 3) := by decide +kernel
theorem dX2_readsSum_96 : decode cX2_readsSum 96 = .ok (.iconst 0, 1) := by decide +kernel
theorem dX2_readsSum_97 : decode cX2_readsSum 97 = .ok (.ireturn, 1) := by decide +kernel
theorem dX2_readsSum_98 : decode cX2_readsSum 98 = .ok (.aload_n 0, 1) := by decide +kernel
theorem dX2_readsSum_99 : decode cX2_readsSum 99 = .ok (.bipush 43, 2) := by decide +kernel
theorem dX2_readsSum_101 : decode cX2_readsSum 101 = .ok (.invokevirtual 26, 3) := by decide +kernel
theorem dX2_readsSum_104 : decode cX2_readsSum 104 = .ok (.ifCond .ne 5, 3) := by decide +kernel
theorem dX2_readsSum_107 : decode cX2_readsSum 107 = .ok (.iconst 1, 1) := by decide +kernel
theorem dX2_readsSum_108 : decode cX2_readsSum 108 = .ok (.ireturn, 1) := by decide +kernel
theorem dX2_readsSum_109 : decode cX2_readsSum 109 = .ok (.iinc 2 1, 3) := by decide +kernel
theorem dX2_readsSum_112 : decode cX2_readsSum 112 = .ok (.goto (-110), 3) := by decide +kernel
theorem dX2_readsSum_115 : decode cX2_readsSum 115 = .ok (.iconst 0, 1) := by decide +kernel
theorem dX2_readsSum_116 : decode cX2_readsSum 116 = .ok (.ireturn, 1) := by decide +kernel
theorem dX3_init_0 : decode cX3_init 0 = .ok (.aload_n 0, 1) := by decide +kernel
theorem dX3_init_1 : decode cX3_init 1 = .ok (.invokespecial 1, 3) := by decide +kernel
theorem dX3_init_4 : decode cX3_init 4 = .ok (.aload_n 0, 1) := by decide +kernel
theorem dX3_init_5 : decode cX3_init 5 = .ok (.new 7, 3) := by decide +kernel
theorem dX3_init_8 : decode cX3_init 8 = .ok (.dup, 1) := by decide +kernel
theorem dX3_init_9 : decode cX3_init 9 = .ok (.invokespecial 9, 3) := by decide +kernel
theorem dX3_init_12 : decode cX3_init 12 = .ok (.putfield 10, 3) := by decide +kernel
theorem dX3_init_15 : decode cX3_init 15 = .ok (.aload_n 0, 1) := by decide +kernel
theorem dX3_init_16 : decode cX3_init 16 = .ok (.new 16, 3) := by decide +kernel
theorem dX3_init_19 : decode cX3_init 19 = .ok (.dup, 1) := by decide +kernel
theorem dX3_init_20 : decode cX3_init 20 = .ok (.invokespecial 18, 3) := by decide +kernel
theorem dX3_init_23 : decode cX3_init 23 = .ok (.putfield 19, 3) := by decide +kernel
theorem dX3_init_26 : decode cX3_init 26 = .ok (.return_, 1) := by decide +kernel
theorem dX3_keeps_0 : decode cX3_keeps 0 = .ok (.aload_n 0, 1) := by decide +kernel
theorem dX3_keeps_1 : decode cX3_keeps 1 = .ok (.getfield 10, 3) := by decide +kernel
theorem dX3_keeps_4 : decode cX3_keeps 4 = .ok (.aload_n 1, 1) := by decide +kernel
theorem dX3_keeps_5 : decode cX3_keeps 5 = .ok (.invokevirtual 23, 3) := by decide +kernel
theorem dX3_keeps_8 : decode cX3_keeps 8 = .ok (.aload_n 0, 1) := by decide +kernel
theorem dX3_keeps_9 : decode cX3_keeps 9 = .ok (.getfield 19, 3) := by decide +kernel
theorem dX3_keeps_12 : decode cX3_keeps 12 = .ok (.aload_n 2, 1) := by decide +kernel
theorem dX3_keeps_13 : decode cX3_keeps 13 = .ok (.invokevirtual 27, 3) := by decide +kernel
theorem dX3_keeps_16 : decode cX3_keeps 16 = .ok (.return_, 1) := by decide +kernel
theorem dX3_returns_0 : decode cX3_returns 0 = .ok (.aload_n 1, 1) := by decide +kernel
theorem dX3_returns_1 : decode cX3_returns 1 = .ok (.aload_n 0, 1) := by decide +kernel
theorem dX3_returns_2 : decode cX3_returns 2 = .ok (.getfield 10, 3) := by decide +kernel
theorem dX3_returns_5 : decode cX3_returns 5 = .ok (.invokevirtual 23, 3) := by decide +kernel
theorem dX3_returns_8 : decode cX3_returns 8 = .ok (.aload_n 2, 1) := by decide +kernel
theorem dX3_returns_9 : decode cX3_returns 9 = .ok (.aload_n 0, 1) := by decide +kernel
theorem dX3_returns_10 : decode cX3_returns 10 = .ok (.getfield 19, 3) := by decide +kernel
theorem dX3_returns_13 : decode cX3_returns 13 = .ok (.invokevirtual 27, 3) := by decide +kernel
theorem dX3_returns_16 : decode cX3_returns 16 = .ok (.return_, 1) := by decide +kernel
theorem dX4_init_0 : decode cX4_init 0 = .ok (.aload_n 0, 1) := by decide +kernel
theorem dX4_init_1 : decode cX4_init 1 = .ok (.invokespecial 3, 3) := by decide +kernel
theorem dX4_init_4 : decode cX4_init 4 = .ok (.aload_n 0, 1) := by decide +kernel
theorem dX4_init_5 : decode cX4_init 5 = .ok (.bipush 60, 2) := by decide +kernel
theorem dX4_init_7 : decode cX4_init 7 = .ok (.newarray .int, 2) := by decide +kernel
theorem dX4_init_9 : decode cX4_init 9 = .ok (.putfield 9, 3) := by decide +kernel
theorem dX4_init_12 : decode cX4_init 12 = .ok (.aload_n 0, 1) := by decide +kernel
theorem dX4_init_13 : decode cX4_init 13 = .ok (.iconst 0, 1) := by decide +kernel
theorem dX4_init_14 : decode cX4_init 14 = .ok (.putfield 15, 3) := by decide +kernel
theorem dX4_init_17 : decode cX4_init 17 = .ok (.aload_n 0, 1) := by decide +kernel
theorem dX4_init_18 : decode cX4_init 18 = .ok (.iconst 0, 1) := by decide +kernel
theorem dX4_init_19 : decode cX4_init 19 = .ok (.putfield 19, 3) := by decide +kernel
theorem dX4_init_22 : decode cX4_init 22 = .ok (.return_, 1) := by decide +kernel
theorem dX4_copies_0 : decode cX4_copies 0 = .ok (.aload_n 1, 1) := by decide +kernel
theorem dX4_copies_1 : decode cX4_copies 1 = .ok (.getfield 9, 3) := by decide +kernel
theorem dX4_copies_4 : decode cX4_copies 4 = .ok (.iconst 0, 1) := by decide +kernel
theorem dX4_copies_5 : decode cX4_copies 5 = .ok (.aload_n 0, 1) := by decide +kernel
theorem dX4_copies_6 : decode cX4_copies 6 = .ok (.getfield 9, 3) := by decide +kernel
theorem dX4_copies_9 : decode cX4_copies 9 = .ok (.iconst 0, 1) := by decide +kernel
theorem dX4_copies_10 : decode cX4_copies 10 = .ok (.bipush 60, 2) := by decide +kernel
theorem dX4_copies_12 : decode cX4_copies 12 = .ok (.invokestatic 22, 3) := by decide +kernel
theorem dX4_copies_15 : decode cX4_copies 15 = .ok (.aload_n 0, 1) := by decide +kernel
theorem dX4_copies_16 : decode cX4_copies 16 = .ok (.aload_n 1, 1) := by decide +kernel
theorem dX4_copies_17 : decode cX4_copies 17 = .ok (.getfield 15, 3) := by decide +kernel
theorem dX4_copies_20 : decode cX4_copies 20 = .ok (.putfield 15, 3) := by decide +kernel
theorem dX4_copies_23 : decode cX4_copies 23 = .ok (.aload_n 0, 1) := by decide +kernel
theorem dX4_copies_24 : decode cX4_copies 24 = .ok (.aload_n 1, 1) := by decide +kernel
theorem dX4_copies_25 : decode cX4_copies 25 = .ok (.getfield 19, 3) := by decide +kernel
theorem dX4_copies_28 : decode cX4_copies 28 = .ok (.putfield 19, 3) := by decide +kernel
theorem dX4_copies_31 : decode cX4_copies 31 = .ok (.return_, 1) := by decide +kernel
theorem dX4_adds_0 : decode cX4_adds 0 = .ok (.aload_n 0, 1) := by decide +kernel
theorem dX4_adds_1 : decode cX4_adds 1 = .ok (.getfield 19, 3) := by decide +kernel
theorem dX4_adds_4 : decode cX4_adds 4 = .ok (.ifCond .lt 12, 3) := by decide +kernel
theorem dX4_adds_7 : decode cX4_adds 7 = .ok (.aload_n 0, 1) := by decide +kernel
theorem dX4_adds_8 : decode cX4_adds 8 = .ok (.getfield 19, 3) := by decide +kernel
theorem dX4_adds_11 : decode cX4_adds 11 = .ok (.bipush 60, 2) := by decide +kernel
theorem dX4_adds_13 : decode cX4_adds 13 = .ok (.if_icmp .lt 4, 3) := by decide +kernel
theorem dX4_adds_16 : decode cX4_adds 16 = .ok (.return_, 1) := by decide +kernel
theorem dX4_adds_17 : decode cX4_adds 17 = .ok (.aload_n 0, 1) := by decide +kernel
theorem dX4_adds_18 : decode cX4_adds 18 = .ok (.getfield 9, 3) := by decide +kernel
theorem dX4_adds_21 : decode cX4_adds 21 = .ok (.aload_n 0, 1) := by decide +kernel
theorem dX4_adds_22 : decode cX4_adds 22 = .ok (.getfield 19, 3) := by decide +kernel
theorem dX4_adds_25 : decode cX4_adds 25 = .ok (.aload_n 1, 1) := by decide +kernel
theorem dX4_adds_26 : decode cX4_adds 26 = .ok (.getfield 28, 3) := by decide +kernel
theorem dX4_adds_29 : decode cX4_adds 29 = .ok (.bipush 18, 2) := by decide +kernel
theorem dX4_adds_31 : decode cX4_adds 31 = .ok (.ishl, 1) := by decide +kernel
theorem dX4_adds_32 : decode cX4_adds 32 = .ok (.aload_n 1, 1) := by decide +kernel
theorem dX4_adds_33 : decode cX4_adds 33 = .ok (.getfield 33, 3) := by decide +kernel
theorem dX4_adds_36 : decode cX4_adds 36 = .ok (.bipush 14, 2) := by decide +kernel
theorem dX4_adds_38 : decode cX4_adds 38 = .ok (.ishl, 1) := by decide +kernel
theorem dX4_adds_39 : decode cX4_adds 39 = .ok (.ior, 1) := by decide +kernel
theorem dX4_adds_40 : decode cX4_adds 40 = .ok (.iload_n 2, 1) := by decide +kernel
theorem dX4_adds_41 : decode cX4_adds 41 = .ok (.bipush 11, 2) := by decide +kernel
theorem dX4_adds_43 : decode cX4_adds 43 = .ok (.ishl, 1) := by decide +kernel
theorem dX4_adds_44 : decode cX4_adds 44 = .ok (.ior, 1) := by decide +kernel
theorem dX4_adds_45 : decode cX4_adds 45 = .ok (.iload_n 3, 1) := by decide +kernel
theorem dX4_adds_46 : decode cX4_adds 46 = .ok (.bipush 8, 2) := by decide +kernel
theorem dX4_adds_48 : decode cX4_adds 48 = .ok (.ishl, 1) := by decide +kernel
theorem dX4_adds_49 : decode cX4_adds 49 = .ok (.ior, 1) := by decide +kernel
theorem dX4_adds_50 : decode cX4_adds 50 = .ok (.iload 4, 2) := by decide +kernel
theorem dX4_adds_52 : decode cX4_adds 52 = .ok (.ior, 1) := by decide +kernel
theorem dX4_adds_53 : decode cX4_adds 53 = .ok (.iastore, 1) := by decide +kernel
theorem dX4_adds_54 : decode cX4_adds 54 = .ok (.aload_n 0, 1) := by decide +kernel
theorem dX4_adds_55 : decode cX4_adds 55 = .ok (.aload_n 0, 1) := by decide +kernel
theorem dX4_adds_56 : decode cX4_adds 56 = .ok (.getfield 19, 3) := by decide +kernel
theorem dX4_adds_59 : decode cX4_adds 59 = .ok (.iconst 1, 1) := by decide +kernel
theorem dX4_adds_60 : decode cX4_adds 60 = .ok (.iadd, 1) := by decide +kernel
theorem dX4_adds_61 : decode cX4_adds 61 = .ok (.bipush 60, 2) := by decide +kernel
theorem dX4_adds_63 : decode cX4_adds 63 = .ok (.irem, 1) := by decide +kernel
theorem dX4_adds_64 : decode cX4_adds 64 = .ok (.putfield 19, 3) := by decide +kernel
theorem dX4_adds_67 : decode cX4_adds 67 = .ok (.aload_n 0, 1) := by decide +kernel
theorem dX4_adds_68 : decode cX4_adds 68 = .ok (.bipush 60, 2) := by decide +kernel
theorem dX4_adds_70 : decode cX4_adds 70 = .ok (.aload_n 0, 1) := by decide +kernel
theorem dX4_adds_71 : decode cX4_adds 71 = .ok (.getfield 15, 3) := by decide +kernel
theorem dX4_adds_74 : decode cX4_adds 74 = .ok (.iconst 1, 1) := by decide +kernel
theorem dX4_adds_75 : decode cX4_adds 75 = .ok (.iadd, 1) := by decide +kernel
theorem dX4_adds_76 : decode cX4_adds 76 = .ok (.invokestatic 36, 3) := by decide +kernel
theorem dX4_adds_79 : decode cX4_adds 79 = .ok (.putfield 15, 3) := by decide +kernel
theorem dX4_adds_82 : decode cX4_adds 82 = .ok (.return_, 1) := by decide +kernel
theorem dX4_tells_0 : decode cX4_tells 0 = .ok (.iload_n 1, 1) := by decide +kernel
theorem dX4_tells_1 : decode cX4_tells 1 = .ok (.ifCond .lt 11, 3) := by decide +kernel
theorem dX4_tells_4 : decode cX4_tells 4 = .ok (.iload_n 1, 1) := by decide +kernel
theorem dX4_tells_5 : decode cX4_tells 5 = .ok (.aload_n 0, 1) := by decide +kernel
theorem dX4_tells_6 : decode cX4_tells 6 = .ok (.getfield 15, 3) := by decide +kernel
theorem dX4_tells_9 : decode cX4_tells 9 = .ok (.if_icmp .lt 5, 3) := by decide +kernel
theorem dX4_tells_12 : decode cX4_tells 12 = .ok (.iconst (-1), 1) := by decide +kernel
theorem dX4_tells_13 : decode cX4_tells 13 = .ok (.ireturn, 1) := by decide +kernel
theorem dX4_tells_14 : decode cX4_tells 14 = .ok (.aload_n 0, 1) := by decide +kernel
theorem dX4_tells_15 : decode cX4_tells 15 = .ok (.getfield 9, 3) := by decide +kernel
theorem dX4_tells_18 : decode cX4_tells 18 = .ok (.aload_n 0, 1) := by decide +kernel
theorem dX4_tells_19 : decode cX4_tells 19 = .ok (.getfield 19, 3) := by decide +kernel
theorem dX4_tells_22 : decode cX4_tells 22 = .ok (.iconst 1, 1) := by decide +kernel
theorem dX4_tells_23 : decode cX4_tells 23 = .ok (.isub, 1) := by decide +kernel
theorem dX4_tells_24 : decode cX4_tells 24 = .ok (.iload_n 1, 1) := by decide +kernel
theorem dX4_tells_25 : decode cX4_tells 25 = .ok (.isub, 1) := by decide +kernel
theorem dX4_tells_26 : decode cX4_tells 26 = .ok (.bipush 120, 2) := by decide +kernel
theorem dX4_tells_28 : decode cX4_tells 28 = .ok (.iadd, 1) := by decide +kernel
theorem dX4_tells_29 : decode cX4_tells 29 = .ok (.bipush 60, 2) := by decide +kernel
theorem dX4_tells_31 : decode cX4_tells 31 = .ok (.irem, 1) := by decide +kernel
theorem dX4_tells_32 : decode cX4_tells 32 = .ok (.iaload, 1) := by decide +kernel
theorem dX4_tells_33 : decode cX4_tells 33 = .ok (.istore_n 3, 1) := by decide +kernel
theorem dX4_tells_34 : decode cX4_tells 34 = .ok (.iload_n 2, 1) := by decide +kernel
theorem dX4_tells_35 : decode cX4_tells 35 = .ok (.tableswitch 58 0 3 #[29, 34, 42, 50], 29) := by decide +kernel
theorem dX4_tells_64 : decode cX4_tells 64 = .ok (.iload_n 3, 1) := by decide +kernel
theorem dX4_tells_65 : decode cX4_tells 65 = .ok (.bipush 18, 2) := by decide +kernel
theorem dX4_tells_67 : decode cX4_tells 67 = .ok (.iushr, 1) := by decide +kernel
theorem dX4_tells_68 : decode cX4_tells 68 = .ok (.ireturn, 1) := by decide +kernel
theorem dX4_tells_69 : decode cX4_tells 69 = .ok (.iload_n 3, 1) := by decide +kernel
theorem dX4_tells_70 : decode cX4_tells 70 = .ok (.bipush 14, 2) := by decide +kernel
theorem dX4_tells_72 : decode cX4_tells 72 = .ok (.iushr, 1) := by decide +kernel
theorem dX4_tells_73 : decode cX4_tells 73 = .ok (.bipush 15, 2) := by decide +kernel
theorem dX4_tells_75 : decode cX4_tells 75 = .ok (.iand, 1) := by decide +kernel
theorem dX4_tells_76 : decode cX4_tells 76 = .ok (.ireturn, 1) := by decide +kernel
theorem dX4_tells_77 : decode cX4_tells 77 = .ok (.iload_n 3, 1) := by decide +kernel
theorem dX4_tells_78 : decode cX4_tells 78 = .ok (.bipush 11, 2) := by decide +kernel
theorem dX4_tells_80 : decode cX4_tells 80 = .ok (.iushr, 1) := by decide +kernel
theorem dX4_tells_81 : decode cX4_tells 81 = .ok (.bipush 7, 2) := by decide +kernel
theorem dX4_tells_83 : decode cX4_tells 83 = .ok (.iand, 1) := by decide +kernel
theorem dX4_tells_84 : decode cX4_tells 84 = .ok (.ireturn, 1) := by decide +kernel
theorem dX4_tells_85 : decode cX4_tells 85 = .ok (.iload_n 3, 1) := by decide +kernel
theorem dX4_tells_86 : decode cX4_tells 86 = .ok (.bipush 8, 2) := by decide +kernel
theorem dX4_tells_88 : decode cX4_tells 88 = .ok (.iushr, 1) := by decide +kernel
theorem dX4_tells_89 : decode cX4_tells 89 = .ok (.bipush 7, 2) := by decide +kernel
theorem dX4_tells_91 : decode cX4_tells 91 = .ok (.iand, 1) := by decide +kernel
theorem dX4_tells_92 : decode cX4_tells 92 = .ok (.ireturn, 1) := by decide +kernel
theorem dX4_tells_93 : decode cX4_tells 93 = .ok (.iload_n 3, 1) := by decide +kernel
theorem dX4_tells_94 : decode cX4_tells 94 = .ok (.sipush 255, 3) := by decide +kernel
theorem dX4_tells_97 : decode cX4_tells 97 = .ok (.iand, 1) := by decide +kernel
theorem dX4_tells_98 : decode cX4_tells 98 = .ok (.ireturn, 1) := by decide +kernel
theorem dX4_rowsOf_0 : decode cX4_rowsOf 0 = .ok (.iconst 0, 1) := by decide +kernel
theorem dX4_rowsOf_1 : decode cX4_rowsOf 1 = .ok (.istore_n 2, 1) := by decide +kernel
theorem dX4_rowsOf_2 : decode cX4_rowsOf 2 = .ok (.iconst 0, 1) := by decide +kernel
theorem dX4_rowsOf_3 : decode cX4_rowsOf 3 = .ok (.istore_n 3, 1) := by decide +kernel
theorem dX4_rowsOf_4 : decode cX4_rowsOf 4 = .ok (.iload_n 3, 1) := by decide +kernel
theorem dX4_rowsOf_5 : decode cX4_rowsOf 5 = .ok (.aload_n 0, 1) := by decide +kernel
theorem dX4_rowsOf_6 : decode cX4_rowsOf 6 = .ok (.getfield 15, 3) := by decide +kernel
theorem dX4_rowsOf_9 : decode cX4_rowsOf 9 = .ok (.if_icmp .ge 27, 3) := by decide +kernel
theorem dX4_rowsOf_12 : decode cX4_rowsOf 12 = .ok (.iload_n 2, 1) := by decide +kernel
theorem dX4_rowsOf_13 : decode cX4_rowsOf 13 = .ok (.aload_n 0, 1) := by decide +kernel
theorem dX4_rowsOf_14 : decode cX4_rowsOf 14 = .ok (.iload_n 3, 1) := by decide +kernel
theorem dX4_rowsOf_15 : decode cX4_rowsOf 15 = .ok (.iconst 3, 1) := by decide +kernel
theorem dX4_rowsOf_16 : decode cX4_rowsOf 16 = .ok (.invokevirtual 42, 3) := by decide +kernel
theorem dX4_rowsOf_19 : decode cX4_rowsOf 19 = .ok (.iload_n 1, 1) := by decide +kernel
theorem dX4_rowsOf_20 : decode cX4_rowsOf 20 = .ok (.if_icmp .ne 7, 3) := by decide +kernel
theorem dX4_rowsOf_23 : decode cX4_rowsOf 23 = .ok (.iconst 1, 1) := by decide +kernel
theorem dX4_rowsOf_24 : decode cX4_rowsOf 24 = .ok (.goto 4, 3) := by decide +kernel
theorem dX4_rowsOf_27 : decode cX4_rowsOf 27 = .ok (.iconst 0, 1) := by decide +kernel
theorem dX4_rowsOf_28 : decode cX4_rowsOf 28 = .ok (.iadd, 1) := by decide +kernel
theorem dX4_rowsOf_29 : decode cX4_rowsOf 29 = .ok (.istore_n 2, 1) := by decide +kernel
theorem dX4_rowsOf_30 : decode cX4_rowsOf 30 = .ok (.iinc 3 1, 3) := by decide +kernel
theorem dX4_rowsOf_33 : decode cX4_rowsOf 33 = .ok (.goto (-29), 3) := by decide +kernel
theorem dX4_rowsOf_36 : decode cX4_rowsOf 36 = .ok (.iload_n 2, 1) := by decide +kernel
theorem dX4_rowsOf_37 : decode cX4_rowsOf 37 = .ok (.ireturn, 1) := by decide +kernel
theorem dX4_latestDinnerOf_0 : decode cX4_latestDinnerOf 0 = .ok (.iconst 0, 1) := by decide +kernel
theorem dX4_latestDinnerOf_1 : decode cX4_latestDinnerOf 1 = .ok (.istore_n 2, 1) := by decide +kernel
theorem dX4_latestDinnerOf_2 : decode cX4_latestDinnerOf 2 = .ok (.iload_n 2, 1) := by decide +kernel
theorem dX4_latestDinnerOf_3 : decode cX4_latestDinnerOf 3 = .ok (.aload_n 0, 1) := by decide +kernel
theorem dX4_latestDinnerOf_4 : decode cX4_latestDinnerOf 4 = .ok (.getfield 15, 3) := by decide +kernel
theorem dX4_latestDinnerOf_7 : decode cX4_latestDinnerOf 7 = .ok (.if_icmp .ge 26, 3) := by decide +kernel
theorem dX4_latestDinnerOf_10 : decode cX4_latestDinnerOf 10 = .ok (.aload_n 0, 1) := by decide +kernel
theorem dX4_latestDinnerOf_11 : decode cX4_latestDinnerOf 11 = .ok (.iload_n 2, 1) := by decide +kernel
theorem dX4_latestDinnerOf_12 : decode cX4_latestDinnerOf 12 = .ok (.iconst 3, 1) := by decide +kernel
theorem dX4_latestDinnerOf_13 : decode cX4_latestDinnerOf 13 = .ok (.invokevirtual 42, 3) := by decide +kernel
theorem dX4_latestDinnerOf_16 : decode cX4_latestDinnerOf 16 = .ok (.iload_n 1, 1) := by decide +kernel
theorem dX4_latestDinnerOf_17 : decode cX4_latestDinnerOf 17 = .ok (.if_icmp .ne 10, 3) := by decide +kernel
theorem dX4_latestDinnerOf_20 : decode cX4_latestDinnerOf 20 = .ok (.aload_n 0, 1) := by decide +kernel
theorem dX4_latestDinnerOf_21 : decode cX4_latestDinnerOf 21 = .ok (.iload_n 2, 1) := by decide +kernel
theorem dX4_latestDinnerOf_22 : decode cX4_latestDinnerOf 22 = .ok (.iconst 0, 1) := by decide +kernel
theorem dX4_latestDinnerOf_23 : decode cX4_latestDinnerOf 23 = .ok (.invokevirtual 42, 3) := by decide +kernel
theorem dX4_latestDinnerOf_26 : decode cX4_latestDinnerOf 26 = .ok (.ireturn, 1) := by decide +kernel
theorem dX4_latestDinnerOf_27 : decode cX4_latestDinnerOf 27 = .ok (.iinc 2 1, 3) := by decide +kernel
theorem dX4_latestDinnerOf_30 : decode cX4_latestDinnerOf 30 = .ok (.goto (-28), 3) := by decide +kernel
theorem dX4_latestDinnerOf_33 : decode cX4_latestDinnerOf 33 = .ok (.iconst (-1), 1) := by decide +kernel
theorem dX4_latestDinnerOf_34 : decode cX4_latestDinnerOf 34 = .ok (.ireturn, 1) := by decide +kernel
theorem dX5_init_0 : decode cX5_init 0 = .ok (.aload_n 0, 1) := by decide +kernel
theorem dX5_init_1 : decode cX5_init 1 = .ok (.invokespecial 3, 3) := by decide +kernel
theorem dX5_init_4 : decode cX5_init 4 = .ok (.aload_n 0, 1) := by decide +kernel
theorem dX5_init_5 : decode cX5_init 5 = .ok (.new 9, 3) := by decide +kernel
theorem dX5_init_8 : decode cX5_init 8 = .ok (.dup, 1) := by decide +kernel
theorem dX5_init_9 : decode cX5_init 9 = .ok (.invokespecial 11, 3) := by decide +kernel
theorem dX5_init_12 : decode cX5_init 12 = .ok (.putfield 12, 3) := by decide +kernel
theorem dX5_init_15 : decode cX5_init 15 = .ok (.aload_n 0, 1) := by decide +kernel
theorem dX5_init_16 : decode cX5_init 16 = .ok (.bipush 8, 2) := by decide +kernel
theorem dX5_init_18 : decode cX5_init 18 = .ok (.newarray .int, 2) := by decide +kernel
theorem dX5_init_20 : decode cX5_init 20 = .ok (.putfield 18, 3) := by decide +kernel
theorem dX5_init_23 : decode cX5_init 23 = .ok (.aload_n 0, 1) := by decide +kernel
theorem dX5_init_24 : decode cX5_init 24 = .ok (.iconst 0, 1) := by decide +kernel
theorem dX5_init_25 : decode cX5_init 25 = .ok (.putfield 22, 3) := by decide +kernel
theorem dX5_init_28 : decode cX5_init 28 = .ok (.return_, 1) := by decide +kernel
theorem dX5_opens_0 : decode cX5_opens 0 = .ok (.aload_n 0, 1) := by decide +kernel
theorem dX5_opens_1 : decode cX5_opens 1 = .ok (.getfield 18, 3) := by decide +kernel
theorem dX5_opens_4 : decode cX5_opens 4 = .ok (.iconst 0, 1) := by decide +kernel
theorem dX5_opens_5 : decode cX5_opens 5 = .ok (.invokestatic 26, 3) := by decide +kernel
theorem dX5_opens_8 : decode cX5_opens 8 = .ok (.aload_n 0, 1) := by decide +kernel
theorem dX5_opens_9 : decode cX5_opens 9 = .ok (.iload_n 1, 1) := by decide +kernel
theorem dX5_opens_10 : decode cX5_opens 10 = .ok (.putfield 22, 3) := by decide +kernel
theorem dX5_opens_13 : decode cX5_opens 13 = .ok (.return_, 1) := by decide +kernel
theorem dX5_goesAhead_0 : decode cX5_goesAhead 0 = .ok (.aload_n 0, 1) := by decide +kernel
theorem dX5_goesAhead_1 : decode cX5_goesAhead 1 = .ok (.aload_n 1, 1) := by decide +kernel
theorem dX5_goesAhead_2 : decode cX5_goesAhead 2 = .ok (.aload_n 2, 1) := by decide +kernel
theorem dX5_goesAhead_3 : decode cX5_goesAhead 3 = .ok (.aconst_null, 1) := by decide +kernel
theorem dX5_goesAhead_4 : decode cX5_goesAhead 4 = .ok (.invokevirtual 32, 3) := by decide +kernel
theorem dX5_goesAhead_7 : decode cX5_goesAhead 7 = .ok (.istore_n 3, 1) := by decide +kernel
theorem dX5_goesAhead_8 : decode cX5_goesAhead 8 = .ok (.aload_n 1, 1) := by decide +kernel
theorem dX5_goesAhead_9 : decode cX5_goesAhead 9 = .ok (.invokevirtual 36, 3) := by decide +kernel
theorem dX5_goesAhead_12 : decode cX5_goesAhead 12 = .ok (.iload_n 3, 1) := by decide +kernel
theorem dX5_goesAhead_13 : decode cX5_goesAhead 13 = .ok (.ireturn, 1) := by decide +kernel
theorem dX5_goesBy_0 : decode cX5_goesBy 0 = .ok (.aload_n 0, 1) := by decide +kernel
theorem dX5_goesBy_1 : decode cX5_goesBy 1 = .ok (.aload_n 1, 1) := by decide +kernel
theorem dX5_goesBy_2 : decode cX5_goesBy 2 = .ok (.aload_n 2, 1) := by decide +kernel
theorem dX5_goesBy_3 : decode cX5_goesBy 3 = .ok (.aload_n 3, 1) := by decide +kernel
theorem dX5_goesBy_4 : decode cX5_goesBy 4 = .ok (.invokevirtual 32, 3) := by decide +kernel
theorem dX5_goesBy_7 : decode cX5_goesBy 7 = .ok (.istore 4, 2) := by decide +kernel
theorem dX5_goesBy_9 : decode cX5_goesBy 9 = .ok (.aload_n 0, 1) := by decide +kernel
theorem dX5_goesBy_10 : decode cX5_goesBy 10 = .ok (.aload_n 1, 1) := by decide +kernel
theorem dX5_goesBy_11 : decode cX5_goesBy 11 = .ok (.invokevirtual 41, 3) := by decide +kernel
theorem dX5_goesBy_14 : decode cX5_goesBy 14 = .ok (.aload_n 0, 1) := by decide +kernel
theorem dX5_goesBy_15 : decode cX5_goesBy 15 = .ok (.aload_n 1, 1) := by decide +kernel
theorem dX5_goesBy_16 : decode cX5_goesBy 16 = .ok (.aload_n 2, 1) := by decide +kernel
theorem dX5_goesBy_17 : decode cX5_goesBy 17 = .ok (.invokevirtual 45, 3) := by decide +kernel
theorem dX5_goesBy_20 : decode cX5_goesBy 20 = .ok (.aload_n 1, 1) := by decide +kernel
theorem dX5_goesBy_21 : decode cX5_goesBy 21 = .ok (.invokevirtual 36, 3) := by decide +kernel
theorem dX5_goesBy_24 : decode cX5_goesBy 24 = .ok (.iload 4, 2) := by decide +kernel
theorem dX5_goesBy_26 : decode cX5_goesBy 26 = .ok (.ireturn, 1) := by decide +kernel
theorem dX5_allTake_0 : decode cX5_allTake 0 = .ok (.iconst 0, 1) := by decide +kernel
theorem dX5_allTake_1 : decode cX5_allTake 1 = .ok (.istore 4, 2) := by decide +kernel
theorem dX5_allTake_3 : decode cX5_allTake 3 = .ok (.iconst 0, 1) := by decide +kernel
theorem dX5_allTake_4 : decode cX5_allTake 4 = .ok (.istore 5, 2) := by decide +kernel
theorem dX5_allTake_6 : decode cX5_allTake 6 = .ok (.iload 5, 2) := by decide +kernel
theorem dX5_allTake_8 : decode cX5_allTake 8 = .ok (.aload_n 1, 1) := by decide +kernel
theorem dX5_allTake_9 : decode cX5_allTake 9 = .ok (.getfield 49, 3) := by decide +kernel
theorem dX5_allTake_12 : decode cX5_allTake 12 = .ok (.if_icmp .ge 89, 3) := by decide +kernel
theorem dX5_allTake_15 : decode cX5_allTake 15 = .ok (.iload 5, 2) := by decide +kernel
theorem dX5_allTake_17 : decode cX5_allTake 17 = .ok (.iconst 5, 1) := by decide +kernel
theorem dX5_allTake_18 : decode cX5_allTake 18 = .ok (.if_icmp .ge 83, 3) := by decide +kernel
theorem dX5_allTake_21 : decode cX5_allTake 21 = .ok (.aload_n 1, 1) := by decide +kernel
theorem dX5_allTake_22 : decode cX5_allTake 22 = .ok (.aload_n 1, 1) := by decide +kernel
theorem dX5_allTake_23 : decode cX5_allTake 23 = .ok (.getfield 52, 3) := by decide +kernel
theorem dX5_allTake_26 : decode cX5_allTake 26 = .ok (.iload 5, 2) := by decide +kernel
theorem dX5_allTake_28 : decode cX5_allTake 28 = .ok (.iaload, 1) := by decide +kernel
theorem dX5_allTake_29 : decode cX5_allTake 29 = .ok (.invokevirtual 55, 3) := by decide +kernel
theorem dX5_allTake_32 : decode cX5_allTake 32 = .ok (.istore 6, 2) := by decide +kernel
theorem dX5_allTake_34 : decode cX5_allTake 34 = .ok (.iload 6, 2) := by decide +kernel
theorem dX5_allTake_36 : decode cX5_allTake 36 = .ok (.ifCond .lt 59, 3) := by decide +kernel
theorem dX5_allTake_39 : decode cX5_allTake 39 = .ok (.iload 6, 2) := by decide +kernel
theorem dX5_allTake_41 : decode cX5_allTake 41 = .ok (.bipush 8, 2) := by decide +kernel
theorem dX5_allTake_43 : decode cX5_allTake 43 = .ok (.if_icmp .ge 52, 3) := by decide +kernel
theorem dX5_allTake_46 : decode cX5_allTake 46 = .ok (.aload_n 1, 1) := by decide +kernel
theorem dX5_allTake_47 : decode cX5_allTake 47 = .ok (.getfield 59, 3) := by decide +kernel
theorem dX5_allTake_50 : decode cX5_allTake 50 = .ok (.iload 5, 2) := by decide +kernel
theorem dX5_allTake_52 : decode cX5_allTake 52 = .ok (.iaload, 1) := by decide +kernel
theorem dX5_allTake_53 : decode cX5_allTake 53 = .ok (.ifCond .le 42, 3) := by decide +kernel
theorem dX5_allTake_56 : decode cX5_allTake 56 = .ok (.aload_n 0, 1) := by decide +kernel
theorem dX5_allTake_57 : decode cX5_allTake 57 = .ok (.aload_n 1, 1) := by decide +kernel
theorem dX5_allTake_58 : decode cX5_allTake 58 = .ok (.aload_n 2, 1) := by decide +kernel
theorem dX5_allTake_59 : decode cX5_allTake 59 = .ok (.iload 5, 2) := by decide +kernel
theorem dX5_allTake_61 : decode cX5_allTake 61 = .ok (.iload 6, 2) := by decide +kernel
theorem dX5_allTake_63 : decode cX5_allTake 63 = .ok (.invokevirtual 62, 3) := by decide +kernel
theorem dX5_allTake_66 : decode cX5_allTake 66 = .ok (.istore 7, 2) := by decide +kernel
theorem dX5_allTake_68 : decode cX5_allTake 68 = .ok (.iload 4, 2) := by decide +kernel
theorem dX5_allTake_70 : decode cX5_allTake 70 = .ok (.iload 7, 2) := by decide +kernel
theorem dX5_allTake_72 : decode cX5_allTake 72 = .ok (.iadd, 1) := by decide +kernel
theorem dX5_allTake_73 : decode cX5_allTake 73 = .ok (.istore 4, 2) := by decide +kernel
theorem dX5_allTake_75 : decode cX5_allTake 75 = .ok (.aload_n 3, 1) := by decide +kernel
theorem dX5_allTake_76 : decode cX5_allTake 76 = .ok (.ifnull 19, 3) := by decide +kernel
theorem dX5_allTake_79 : decode cX5_allTake 79 = .ok (.iload 7, 2) := by decide +kernel
theorem dX5_allTake_81 : decode cX5_allTake 81 = .ok (.ifCond .le 14, 3) := by decide +kernel
theorem dX5_allTake_84 : decode cX5_allTake 84 = .ok (.aload_n 3, 1) := by decide +kernel
theorem dX5_allTake_85 : decode cX5_allTake 85 = .ok (.aload_n 1, 1) := by decide +kernel
theorem dX5_allTake_86 : decode cX5_allTake 86 = .ok (.iload 6, 2) := by decide +kernel
theorem dX5_allTake_88 : decode cX5_allTake 88 = .ok (.iload 5, 2) := by decide +kernel
theorem dX5_allTake_90 : decode cX5_allTake 90 = .ok (.iload 7, 2) := by decide +kernel
theorem dX5_allTake_92 : decode cX5_allTake 92 = .ok (.invokevirtual 66, 3) := by decide +kernel
theorem dX5_allTake_95 : decode cX5_allTake 95 = .ok (.iinc 5 1, 3) := by decide +kernel
theorem dX5_allTake_98 : decode cX5_allTake 98 = .ok (.goto (-92), 3) := by decide +kernel
theorem dX5_allTake_101 : decode cX5_allTake 101 = .ok (.iload 4, 2) := by decide +kernel
theorem dX5_allTake_103 : decode cX5_allTake 103 = .ok (.ireturn, 1) := by decide +kernel
theorem dX5_pinchOf_0 : decode cX5_pinchOf 0 = .ok (.aload_n 0, 1) := by decide +kernel
theorem dX5_pinchOf_1 : decode cX5_pinchOf 1 = .ok (.getfield 12, 3) := by decide +kernel
theorem dX5_pinchOf_4 : decode cX5_pinchOf 4 = .ok (.aload_n 1, 1) := by decide +kernel
theorem dX5_pinchOf_5 : decode cX5_pinchOf 5 = .ok (.iload_n 3, 1) := by decide +kernel
theorem dX5_pinchOf_6 : decode cX5_pinchOf 6 = .ok (.iload 4, 2) := by decide +kernel
theorem dX5_pinchOf_8 : decode cX5_pinchOf 8 = .ok (.invokevirtual 72, 3) := by decide +kernel
theorem dX5_pinchOf_11 : decode cX5_pinchOf 11 = .ok (.aload_n 2, 1) := by decide +kernel
theorem dX5_pinchOf_12 : decode cX5_pinchOf 12 = .ok (.aload_n 0, 1) := by decide +kernel
theorem dX5_pinchOf_13 : decode cX5_pinchOf 13 = .ok (.getfield 12, 3) := by decide +kernel
theorem dX5_pinchOf_16 : decode cX5_pinchOf 16 = .ok (.invokevirtual 76, 3) := by decide +kernel
theorem dX5_pinchOf_19 : decode cX5_pinchOf 19 = .ok (.istore 5, 2) := by decide +kernel
theorem dX5_pinchOf_21 : decode cX5_pinchOf 21 = .ok (.iload 5, 2) := by decide +kernel
theorem dX5_pinchOf_23 : decode cX5_pinchOf 23 = .ok (.ifCond .le 19, 3) := by decide +kernel
theorem dX5_pinchOf_26 : decode cX5_pinchOf 26 = .ok (.aload_n 0, 1) := by decide +kernel
theorem dX5_pinchOf_27 : decode cX5_pinchOf 27 = .ok (.getfield 22, 3) := by decide +kernel
theorem dX5_pinchOf_30 : decode cX5_pinchOf 30 = .ok (.iload 4, 2) := by decide +kernel
theorem dX5_pinchOf_32 : decode cX5_pinchOf 32 = .ok (.ishr, 1) := by decide +kernel
theorem dX5_pinchOf_33 : decode cX5_pinchOf 33 = .ok (.iconst 1, 1) := by decide +kernel
theorem dX5_pinchOf_34 : decode cX5_pinchOf 34 = .ok (.iand, 1) := by decide +kernel
theorem dX5_pinchOf_35 : decode cX5_pinchOf 35 = .ok (.iconst 1, 1) := by decide +kernel
theorem dX5_pinchOf_36 : decode cX5_pinchOf 36 = .ok (.if_icmp .ne 6, 3) := by decide +kernel
theorem dX5_pinchOf_39 : decode cX5_pinchOf 39 = .ok (.iinc 5 (-1), 3) := by decide +kernel
theorem dX5_pinchOf_42 : decode cX5_pinchOf 42 = .ok (.aload_n 1, 1) := by decide +kernel
theorem dX5_pinchOf_43 : decode cX5_pinchOf 43 = .ok (.getfield 59, 3) := by decide +kernel
theorem dX5_pinchOf_46 : decode cX5_pinchOf 46 = .ok (.iload_n 3, 1) := by decide +kernel
theorem dX5_pinchOf_47 : decode cX5_pinchOf 47 = .ok (.dup2, 1) := by decide +kernel
theorem dX5_pinchOf_48 : decode cX5_pinchOf 48 = .ok (.iaload, 1) := by decide +kernel
theorem dX5_pinchOf_49 : decode cX5_pinchOf 49 = .ok (.iload 5, 2) := by decide +kernel
theorem dX5_pinchOf_51 : decode cX5_pinchOf 51 = .ok (.isub, 1) := by decide +kernel
theorem dX5_pinchOf_52 : decode cX5_pinchOf 52 = .ok (.iastore, 1) := by decide +kernel
theorem dX5_pinchOf_53 : decode cX5_pinchOf 53 = .ok (.aload_n 1, 1) := by decide +kernel
theorem dX5_pinchOf_54 : decode cX5_pinchOf 54 = .ok (.iload 4, 2) := by decide +kernel
theorem dX5_pinchOf_56 : decode cX5_pinchOf 56 = .ok (.aload_n 1, 1) := by decide +kernel
theorem dX5_pinchOf_57 : decode cX5_pinchOf 57 = .ok (.getfield 82, 3) := by decide +kernel
theorem dX5_pinchOf_60 : decode cX5_pinchOf 60 = .ok (.iload_n 3, 1) := by decide +kernel
theorem dX5_pinchOf_61 : decode cX5_pinchOf 61 = .ok (.iaload, 1) := by decide +kernel
theorem dX5_pinchOf_62 : decode cX5_pinchOf 62 = .ok (.iload 5, 2) := by decide +kernel
theorem dX5_pinchOf_64 : decode cX5_pinchOf 64 = .ok (.invokevirtual 85, 3) := by decide +kernel
theorem dX5_pinchOf_67 : decode cX5_pinchOf 67 = .ok (.aload_n 0, 1) := by decide +kernel
theorem dX5_pinchOf_68 : decode cX5_pinchOf 68 = .ok (.getfield 18, 3) := by decide +kernel
theorem dX5_pinchOf_71 : decode cX5_pinchOf 71 = .ok (.iload 4, 2) := by decide +kernel
theorem dX5_pinchOf_73 : decode cX5_pinchOf 73 = .ok (.dup2, 1) := by decide +kernel
theorem dX5_pinchOf_74 : decode cX5_pinchOf 74 = .ok (.iaload, 1) := by decide +kernel
theorem dX5_pinchOf_75 : decode cX5_pinchOf 75 = .ok (.iload 5, 2) := by decide +kernel
theorem dX5_pinchOf_77 : decode cX5_pinchOf 77 = .ok (.iadd, 1) := by decide +kernel
theorem dX5_pinchOf_78 : decode cX5_pinchOf 78 = .ok (.iastore, 1) := by decide +kernel
theorem dX5_pinchOf_79 : decode cX5_pinchOf 79 = .ok (.iload 5, 2) := by decide +kernel
theorem dX5_pinchOf_81 : decode cX5_pinchOf 81 = .ok (.ireturn, 1) := by decide +kernel
theorem dX5_spills_0 : decode cX5_spills 0 = .ok (.iconst 0, 1) := by decide +kernel
theorem dX5_spills_1 : decode cX5_spills 1 = .ok (.istore_n 2, 1) := by decide +kernel
theorem dX5_spills_2 : decode cX5_spills 2 = .ok (.iload_n 2, 1) := by decide +kernel
theorem dX5_spills_3 : decode cX5_spills 3 = .ok (.aload_n 1, 1) := by decide +kernel
theorem dX5_spills_4 : decode cX5_spills 4 = .ok (.getfield 49, 3) := by decide +kernel
theorem dX5_spills_7 : decode cX5_spills 7 = .ok (.if_icmp .ge 63, 3) := by decide +kernel
theorem dX5_spills_10 : decode cX5_spills 10 = .ok (.iload_n 2, 1) := by decide +kernel
theorem dX5_spills_11 : decode cX5_spills 11 = .ok (.iconst 5, 1) := by decide +kernel
theorem dX5_spills_12 : decode cX5_spills 12 = .ok (.if_icmp .ge 58, 3) := by decide +kernel
theorem dX5_spills_15 : decode cX5_spills 15 = .ok (.aload_n 1, 1) := by decide +kernel
theorem dX5_spills_16 : decode cX5_spills 16 = .ok (.getfield 59, 3) := by decide +kernel
theorem dX5_spills_19 : decode cX5_spills 19 = .ok (.iload_n 2, 1) := by decide +kernel
theorem dX5_spills_20 : decode cX5_spills 20 = .ok (.iaload, 1) := by decide +kernel
theorem dX5_spills_21 : decode cX5_spills 21 = .ok (.ifCond .le 43, 3) := by decide +kernel
theorem dX5_spills_24 : decode cX5_spills 24 = .ok (.aload_n 1, 1) := by decide +kernel
theorem dX5_spills_25 : decode cX5_spills 25 = .ok (.invokevirtual 89, 3) := by decide +kernel
theorem dX5_spills_28 : decode cX5_spills 28 = .ok (.bipush 100, 2) := by decide +kernel
theorem dX5_spills_30 : decode cX5_spills 30 = .ok (.irem, 1) := by decide +kernel
theorem dX5_spills_31 : decode cX5_spills 31 = .ok (.aload_n 1, 1) := by decide +kernel
theorem dX5_spills_32 : decode cX5_spills 32 = .ok (.getfield 93, 3) := by decide +kernel
theorem dX5_spills_35 : decode cX5_spills 35 = .ok (.if_icmp .ge 29, 3) := by decide +kernel
theorem dX5_spills_38 : decode cX5_spills 38 = .ok (.aload_n 1, 1) := by decide +kernel
theorem dX5_spills_39 : decode cX5_spills 39 = .ok (.getfield 59, 3) := by decide +kernel
theorem dX5_spills_42 : decode cX5_spills 42 = .ok (.iload_n 2, 1) := by decide +kernel
theorem dX5_spills_43 : decode cX5_spills 43 = .ok (.dup2, 1) := by decide +kernel
theorem dX5_spills_44 : decode cX5_spills 44 = .ok (.iaload, 1) := by decide +kernel
theorem dX5_spills_45 : decode cX5_spills 45 = .ok (.iconst 1, 1) := by decide +kernel
theorem dX5_spills_46 : decode cX5_spills 46 = .ok (.isub, 1) := by decide +kernel
theorem dX5_spills_47 : decode cX5_spills 47 = .ok (.iastore, 1) := by decide +kernel
theorem dX5_spills_48 : decode cX5_spills 48 = .ok (.aload_n 1, 1) := by decide +kernel
theorem dX5_spills_49 : decode cX5_spills 49 = .ok (.sipush 9999, 3) := by decide +kernel
theorem dX5_spills_52 : decode cX5_spills 52 = .ok (.aload_n 1, 1) := by decide +kernel
theorem dX5_spills_53 : decode cX5_spills 53 = .ok (.getfield 96, 3) := by decide +kernel
theorem dX5_spills_56 : decode cX5_spills 56 = .ok (.iconst 1, 1) := by decide +kernel
theorem dX5_spills_57 : decode cX5_spills 57 = .ok (.iadd, 1) := by decide +kernel
theorem dX5_spills_58 : decode cX5_spills 58 = .ok (.invokestatic 99, 3) := by decide +kernel
theorem dX5_spills_61 : decode cX5_spills 61 = .ok (.putfield 96, 3) := by decide +kernel
theorem dX5_spills_64 : decode cX5_spills 64 = .ok (.iinc 2 1, 3) := by decide +kernel
theorem dX5_spills_67 : decode cX5_spills 67 = .ok (.goto (-65), 3) := by decide +kernel
theorem dX5_spills_70 : decode cX5_spills 70 = .ok (.return_, 1) := by decide +kernel
theorem dX5_damps_0 : decode cX5_damps 0 = .ok (.aload_n 1, 1) := by decide +kernel
theorem dX5_damps_1 : decode cX5_damps 1 = .ok (.invokevirtual 89, 3) := by decide +kernel
theorem dX5_damps_4 : decode cX5_damps 4 = .ok (.bipush 100, 2) := by decide +kernel
theorem dX5_damps_6 : decode cX5_damps 6 = .ok (.irem, 1) := by decide +kernel
theorem dX5_damps_7 : decode cX5_damps 7 = .ok (.aload_n 1, 1) := by decide +kernel
theorem dX5_damps_8 : decode cX5_damps 8 = .ok (.getfield 105, 3) := by decide +kernel
theorem dX5_damps_11 : decode cX5_damps 11 = .ok (.if_icmp .lt 4, 3) := by decide +kernel
theorem dX5_damps_14 : decode cX5_damps 14 = .ok (.return_, 1) := by decide +kernel
theorem dX5_damps_15 : decode cX5_damps 15 = .ok (.iconst 0, 1) := by decide +kernel
theorem dX5_damps_16 : decode cX5_damps 16 = .ok (.istore_n 3, 1) := by decide +kernel
theorem dX5_damps_17 : decode cX5_damps 17 = .ok (.iload_n 3, 1) := by decide +kernel
theorem dX5_damps_18 : decode cX5_damps 18 = .ok (.aload_n 1, 1) := by decide +kernel
theorem dX5_damps_19 : decode cX5_damps 19 = .ok (.getfield 49, 3) := by decide +kernel
theorem dX5_damps_22 : decode cX5_damps 22 = .ok (.if_icmp .ge 85, 3) := by decide +kernel
theorem dX5_damps_25 : decode cX5_damps 25 = .ok (.iload_n 3, 1) := by decide +kernel
theorem dX5_damps_26 : decode cX5_damps 26 = .ok (.iconst 5, 1) := by decide +kernel
theorem dX5_damps_27 : decode cX5_damps 27 = .ok (.if_icmp .ge 80, 3) := by decide +kernel
theorem dX5_damps_30 : decode cX5_damps 30 = .ok (.aload_n 1, 1) := by decide +kernel
theorem dX5_damps_31 : decode cX5_damps 31 = .ok (.getfield 59, 3) := by decide +kernel
theorem dX5_damps_34 : decode cX5_damps 34 = .ok (.iload_n 3, 1) := by decide +kernel
theorem dX5_damps_35 : decode cX5_damps 35 = .ok (.iaload, 1) := by decide +kernel
theorem dX5_damps_36 : decode cX5_damps 36 = .ok (.ifCond .le 65, 3) := by decide +kernel
theorem dX5_damps_39 : decode cX5_damps 39 = .ok (.iconst 1, 1) := by decide +kernel
theorem dX5_damps_40 : decode cX5_damps 40 = .ok (.istore 4, 2) := by decide +kernel
theorem dX5_damps_42 : decode cX5_damps 42 = .ok (.aload_n 1, 1) := by decide +kernel
theorem dX5_damps_43 : decode cX5_damps 43 = .ok (.aload_n 1, 1) := by decide +kernel
theorem dX5_damps_44 : decode cX5_damps 44 = .ok (.getfield 52, 3) := by decide +kernel
theorem dX5_damps_47 : decode cX5_damps 47 = .ok (.iload_n 3, 1) := by decide +kernel
theorem dX5_damps_48 : decode cX5_damps 48 = .ok (.iaload, 1) := by decide +kernel
theorem dX5_damps_49 : decode cX5_damps 49 = .ok (.invokevirtual 55, 3) := by decide +kernel
theorem dX5_damps_52 : decode cX5_damps 52 = .ok (.istore 5, 2) := by decide +kernel
theorem dX5_damps_54 : decode cX5_damps 54 = .ok (.iload 5, 2) := by decide +kernel
theorem dX5_damps_56 : decode cX5_damps 56 = .ok (.iconst (-1), 1) := by decide +kernel
theorem dX5_damps_57 : decode cX5_damps 57 = .ok (.if_icmp .eq 24, 3) := by decide +kernel
theorem dX5_damps_60 : decode cX5_damps 60 = .ok (.aload_n 0, 1) := by decide +kernel
theorem dX5_damps_61 : decode cX5_damps 61 = .ok (.getfield 12, 3) := by decide +kernel
theorem dX5_damps_64 : decode cX5_damps 64 = .ok (.aload_n 1, 1) := by decide +kernel
theorem dX5_damps_65 : decode cX5_damps 65 = .ok (.iload_n 3, 1) := by decide +kernel
theorem dX5_damps_66 : decode cX5_damps 66 = .ok (.iload 5, 2) := by decide +kernel
theorem dX5_damps_68 : decode cX5_damps 68 = .ok (.invokevirtual 72, 3) := by decide +kernel
theorem dX5_damps_71 : decode cX5_damps 71 = .ok (.aload_n 2, 1) := by decide +kernel
theorem dX5_damps_72 : decode cX5_damps 72 = .ok (.aload_n 0, 1) := by decide +kernel
theorem dX5_damps_73 : decode cX5_damps 73 = .ok (.getfield 12, 3) := by decide +kernel
theorem dX5_damps_76 : decode cX5_damps 76 = .ok (.invokevirtual 108, 3) := by decide +kernel
theorem dX5_damps_79 : decode cX5_damps 79 = .ok (.istore 4, 2) := by decide +kernel
theorem dX5_damps_81 : decode cX5_damps 81 = .ok (.aload_n 1, 1) := by decide +kernel
theorem dX5_damps_82 : decode cX5_damps 82 = .ok (.getfield 111, 3) := by decide +kernel
theorem dX5_damps_85 : decode cX5_damps 85 = .ok (.iload_n 3, 1) := by decide +kernel
theorem dX5_damps_86 : decode cX5_damps 86 = .ok (.bipush 9, 2) := by decide +kernel
theorem dX5_damps_88 : decode cX5_damps 88 = .ok (.aload_n 1, 1) := by decide +kernel
theorem dX5_damps_89 : decode cX5_damps 89 = .ok (.getfield 111, 3) := by decide +kernel
theorem dX5_damps_92 : decode cX5_damps 92 = .ok (.iload_n 3, 1) := by decide +kernel
theorem dX5_damps_93 : decode cX5_damps 93 = .ok (.iaload, 1) := by decide +kernel
theorem dX5_damps_94 : decode cX5_damps 94 = .ok (.iload 4, 2) := by decide +kernel
theorem dX5_damps_96 : decode cX5_damps 96 = .ok (.iadd, 1) := by decide +kernel
theorem dX5_damps_97 : decode cX5_damps 97 = .ok (.invokestatic 99, 3) := by decide +kernel
theorem dX5_damps_100 : decode cX5_damps 100 = .ok (.iastore, 1) := by decide +kernel
theorem dX5_damps_101 : decode cX5_damps 101 = .ok (.iinc 3 1, 3) := by decide +kernel
theorem dX5_damps_104 : decode cX5_damps 104 = .ok (.goto (-87), 3) := by decide +kernel
theorem dX5_damps_107 : decode cX5_damps 107 = .ok (.return_, 1) := by decide +kernel
theorem dX6_init_0 : decode cX6_init 0 = .ok (.aload_n 0, 1) := by decide +kernel
theorem dX6_init_1 : decode cX6_init 1 = .ok (.invokespecial 3, 3) := by decide +kernel
theorem dX6_init_4 : decode cX6_init 4 = .ok (.aload_n 0, 1) := by decide +kernel
theorem dX6_init_5 : decode cX6_init 5 = .ok (.iconst 0, 1) := by decide +kernel
theorem dX6_init_6 : decode cX6_init 6 = .ok (.putfield 9, 3) := by decide +kernel
theorem dX6_init_9 : decode cX6_init 9 = .ok (.aload_n 0, 1) := by decide +kernel
theorem dX6_init_10 : decode cX6_init 10 = .ok (.iconst 0, 1) := by decide +kernel
theorem dX6_init_11 : decode cX6_init 11 = .ok (.putfield 15, 3) := by decide +kernel
theorem dX6_init_14 : decode cX6_init 14 = .ok (.aload_n 0, 1) := by decide +kernel
theorem dX6_init_15 : decode cX6_init 15 = .ok (.iconst 0, 1) := by decide +kernel
theorem dX6_init_16 : decode cX6_init 16 = .ok (.putfield 18, 3) := by decide +kernel
theorem dX6_init_19 : decode cX6_init 19 = .ok (.aload_n 0, 1) := by decide +kernel
theorem dX6_init_20 : decode cX6_init 20 = .ok (.iconst 0, 1) := by decide +kernel
theorem dX6_init_21 : decode cX6_init 21 = .ok (.putfield 21, 3) := by decide +kernel
theorem dX6_init_24 : decode cX6_init 24 = .ok (.aload_n 0, 1) := by decide +kernel
theorem dX6_init_25 : decode cX6_init 25 = .ok (.iconst 0, 1) := by decide +kernel
theorem dX6_init_26 : decode cX6_init 26 = .ok (.putfield 24, 3) := by decide +kernel
theorem dX6_init_29 : decode cX6_init 29 = .ok (.aload_n 0, 1) := by decide +kernel
theorem dX6_init_30 : decode cX6_init 30 = .ok (.iconst 0, 1) := by decide +kernel
theorem dX6_init_31 : decode cX6_init 31 = .ok (.putfield 27, 3) := by decide +kernel
theorem dX6_init_34 : decode cX6_init 34 = .ok (.aload_n 0, 1) := by decide +kernel
theorem dX6_init_35 : decode cX6_init 35 = .ok (.iconst 0, 1) := by decide +kernel
theorem dX6_init_36 : decode cX6_init 36 = .ok (.putfield 30, 3) := by decide +kernel
theorem dX6_init_39 : decode cX6_init 39 = .ok (.aload_n 0, 1) := by decide +kernel
theorem dX6_init_40 : decode cX6_init 40 = .ok (.iconst 0, 1) := by decide +kernel
theorem dX6_init_41 : decode cX6_init 41 = .ok (.putfield 33, 3) := by decide +kernel
theorem dX6_init_44 : decode cX6_init 44 = .ok (.aload_n 0, 1) := by decide +kernel
theorem dX6_init_45 : decode cX6_init 45 = .ok (.iconst 0, 1) := by decide +kernel
theorem dX6_init_46 : decode cX6_init 46 = .ok (.putfield 36, 3) := by decide +kernel
theorem dX6_init_49 : decode cX6_init 49 = .ok (.aload_n 0, 1) := by decide +kernel
theorem dX6_init_50 : decode cX6_init 50 = .ok (.iconst 1, 1) := by decide +kernel
theorem dX6_init_51 : decode cX6_init 51 = .ok (.putfield 39, 3) := by decide +kernel
theorem dX6_init_54 : decode cX6_init 54 = .ok (.aload_n 0, 1) := by decide +kernel
theorem dX6_init_55 : decode cX6_init 55 = .ok (.iconst 0, 1) := by decide +kernel
theorem dX6_init_56 : decode cX6_init 56 = .ok (.putfield 42, 3) := by decide +kernel
theorem dX6_init_59 : decode cX6_init 59 = .ok (.aload_n 0, 1) := by decide +kernel
theorem dX6_init_60 : decode cX6_init 60 = .ok (.bipush 10, 2) := by decide +kernel
theorem dX6_init_62 : decode cX6_init 62 = .ok (.newarray .int, 2) := by decide +kernel
theorem dX6_init_64 : decode cX6_init 64 = .ok (.putfield 45, 3) := by decide +kernel
theorem dX6_init_67 : decode cX6_init 67 = .ok (.aload_n 0, 1) := by decide +kernel
theorem dX6_init_68 : decode cX6_init 68 = .ok (.bipush 8, 2) := by decide +kernel
theorem dX6_init_70 : decode cX6_init 70 = .ok (.newarray .int, 2) := by decide +kernel
theorem dX6_init_72 : decode cX6_init 72 = .ok (.putfield 49, 3) := by decide +kernel
theorem dX6_init_75 : decode cX6_init 75 = .ok (.aload_n 0, 1) := by decide +kernel
theorem dX6_init_76 : decode cX6_init 76 = .ok (.bipush 48, 2) := by decide +kernel
theorem dX6_init_78 : decode cX6_init 78 = .ok (.newarray .int, 2) := by decide +kernel
theorem dX6_init_80 : decode cX6_init 80 = .ok (.putfield 52, 3) := by decide +kernel
theorem dX6_init_83 : decode cX6_init 83 = .ok (.aload_n 0, 1) := by decide +kernel
theorem dX6_init_84 : decode cX6_init 84 = .ok (.iconst 5, 1) := by decide +kernel
theorem dX6_init_85 : decode cX6_init 85 = .ok (.newarray .int, 2) := by decide +kernel
theorem dX6_init_87 : decode cX6_init 87 = .ok (.putfield 55, 3) := by decide +kernel
theorem dX6_init_90 : decode cX6_init 90 = .ok (.aload_n 0, 1) := by decide +kernel
theorem dX6_init_91 : decode cX6_init 91 = .ok (.iconst 5, 1) := by decide +kernel
theorem dX6_init_92 : decode cX6_init 92 = .ok (.newarray .int, 2) := by decide +kernel
theorem dX6_init_94 : decode cX6_init 94 = .ok (.putfield 58, 3) := by decide +kernel
theorem dX6_init_97 : decode cX6_init 97 = .ok (.aload_n 0, 1) := by decide +kernel
theorem dX6_init_98 : decode cX6_init 98 = .ok (.iconst 5, 1) := by decide +kernel
theorem dX6_init_99 : decode cX6_init 99 = .ok (.newarray .int, 2) := by decide +kernel
theorem dX6_init_101 : decode cX6_init 101 = .ok (.putfield 61, 3) := by decide +kernel
theorem dX6_init_104 : decode cX6_init 104 = .ok (.aload_n 0, 1) := by decide +kernel
theorem dX6_init_105 : decode cX6_init 105 = .ok (.iconst 5, 1) := by decide +kernel
theorem dX6_init_106 : decode cX6_init 106 = .ok (.newarray .int, 2) := by decide +kernel
theorem dX6_init_108 : decode cX6_init 108 = .ok (.putfield 64, 3) := by decide +kernel
theorem dX6_init_111 : decode cX6_init 111 = .ok (.aload_n 0, 1) := by decide +kernel
theorem dX6_init_112 : decode cX6_init 112 = .ok (.iconst 5, 1) := by decide +kernel
theorem dX6_init_113 : decode cX6_init 113 = .ok (.newarray .int, 2) := by decide +kernel
theorem dX6_init_115 : decode cX6_init 115 = .ok (.putfield 67, 3) := by decide +kernel
theorem dX6_init_118 : decode cX6_init 118 = .ok (.aload_n 0, 1) := by decide +kernel
theorem dX6_init_119 : decode cX6_init 119 = .ok (.getfield 45, 3) := by decide +kernel
theorem dX6_init_122 : decode cX6_init 122 = .ok (.iconst (-1), 1) := by decide +kernel
theorem dX6_init_123 : decode cX6_init 123 = .ok (.invokestatic 70, 3) := by decide +kernel
theorem dX6_init_126 : decode cX6_init 126 = .ok (.return_, 1) := by decide +kernel
theorem dX6_copies_0 : decode cX6_copies 0 = .ok (.aload_n 0, 1) := by decide +kernel
theorem dX6_copies_1 : decode cX6_copies 1 = .ok (.aload_n 1, 1) := by decide +kernel
theorem dX6_copies_2 : decode cX6_copies 2 = .ok (.getfield 9, 3) := by decide +kernel
theorem dX6_copies_5 : decode cX6_copies 5 = .ok (.putfield 9, 3) := by decide +kernel
theorem dX6_copies_8 : decode cX6_copies 8 = .ok (.aload_n 0, 1) := by decide +kernel
theorem dX6_copies_9 : decode cX6_copies 9 = .ok (.aload_n 1, 1) := by decide +kernel
theorem dX6_copies_10 : decode cX6_copies 10 = .ok (.getfield 15, 3) := by decide +kernel
theorem dX6_copies_13 : decode cX6_copies 13 = .ok (.putfield 15, 3) := by decide +kernel
theorem dX6_copies_16 : decode cX6_copies 16 = .ok (.aload_n 0, 1) := by decide +kernel
theorem dX6_copies_17 : decode cX6_copies 17 = .ok (.aload_n 1, 1) := by decide +kernel
theorem dX6_copies_18 : decode cX6_copies 18 = .ok (.getfield 18, 3) := by decide +kernel
theorem dX6_copies_21 : decode cX6_copies 21 = .ok (.putfield 18, 3) := by decide +kernel
theorem dX6_copies_24 : decode cX6_copies 24 = .ok (.aload_n 0, 1) := by decide +kernel
theorem dX6_copies_25 : decode cX6_copies 25 = .ok (.aload_n 1, 1) := by decide +kernel
theorem dX6_copies_26 : decode cX6_copies 26 = .ok (.getfield 21, 3) := by decide +kernel
theorem dX6_copies_29 : decode cX6_copies 29 = .ok (.putfield 21, 3) := by decide +kernel
theorem dX6_copies_32 : decode cX6_copies 32 = .ok (.aload_n 0, 1) := by decide +kernel
theorem dX6_copies_33 : decode cX6_copies 33 = .ok (.aload_n 1, 1) := by decide +kernel
theorem dX6_copies_34 : decode cX6_copies 34 = .ok (.getfield 24, 3) := by decide +kernel
theorem dX6_copies_37 : decode cX6_copies 37 = .ok (.putfield 24, 3) := by decide +kernel
theorem dX6_copies_40 : decode cX6_copies 40 = .ok (.aload_n 0, 1) := by decide +kernel
theorem dX6_copies_41 : decode cX6_copies 41 = .ok (.aload_n 1, 1) := by decide +kernel
theorem dX6_copies_42 : decode cX6_copies 42 = .ok (.getfield 27, 3) := by decide +kernel
theorem dX6_copies_45 : decode cX6_copies 45 = .ok (.putfield 27, 3) := by decide +kernel
theorem dX6_copies_48 : decode cX6_copies 48 = .ok (.aload_n 0, 1) := by decide +kernel
theorem dX6_copies_49 : decode cX6_copies 49 = .ok (.aload_n 1, 1) := by decide +kernel
theorem dX6_copies_50 : decode cX6_copies 50 = .ok (.getfield 30, 3) := by decide +kernel
theorem dX6_copies_53 : decode cX6_copies 53 = .ok (.putfield 30, 3) := by decide +kernel
theorem dX6_copies_56 : decode cX6_copies 56 = .ok (.aload_n 0, 1) := by decide +kernel
theorem dX6_copies_57 : decode cX6_copies 57 = .ok (.aload_n 1, 1) := by decide +kernel
theorem dX6_copies_58 : decode cX6_copies 58 = .ok (.getfield 33, 3) := by decide +kernel
theorem dX6_copies_61 : decode cX6_copies 61 = .ok (.putfield 33, 3) := by decide +kernel
theorem dX6_copies_64 : decode cX6_copies 64 = .ok (.aload_n 0, 1) := by decide +kernel
theorem dX6_copies_65 : decode cX6_copies 65 = .ok (.aload_n 1, 1) := by decide +kernel
theorem dX6_copies_66 : decode cX6_copies 66 = .ok (.getfield 36, 3) := by decide +kernel
theorem dX6_copies_69 : decode cX6_copies 69 = .ok (.putfield 36, 3) := by decide +kernel
theorem dX6_copies_72 : decode cX6_copies 72 = .ok (.aload_n 0, 1) := by decide +kernel
theorem dX6_copies_73 : decode cX6_copies 73 = .ok (.aload_n 1, 1) := by decide +kernel
theorem dX6_copies_74 : decode cX6_copies 74 = .ok (.getfield 39, 3) := by decide +kernel
theorem dX6_copies_77 : decode cX6_copies 77 = .ok (.putfield 39, 3) := by decide +kernel
theorem dX6_copies_80 : decode cX6_copies 80 = .ok (.aload_n 0, 1) := by decide +kernel
theorem dX6_copies_81 : decode cX6_copies 81 = .ok (.aload_n 1, 1) := by decide +kernel
theorem dX6_copies_82 : decode cX6_copies 82 = .ok (.getfield 42, 3) := by decide +kernel
theorem dX6_copies_85 : decode cX6_copies 85 = .ok (.putfield 42, 3) := by decide +kernel
theorem dX6_copies_88 : decode cX6_copies 88 = .ok (.aload_n 1, 1) := by decide +kernel
theorem dX6_copies_89 : decode cX6_copies 89 = .ok (.getfield 45, 3) := by decide +kernel
theorem dX6_copies_92 : decode cX6_copies 92 = .ok (.iconst 0, 1) := by decide +kernel
theorem dX6_copies_93 : decode cX6_copies 93 = .ok (.aload_n 0, 1) := by decide +kernel
theorem dX6_copies_94 : decode cX6_copies 94 = .ok (.getfield 45, 3) := by decide +kernel
theorem dX6_copies_97 : decode cX6_copies 97 = .ok (.iconst 0, 1) := by decide +kernel
theorem dX6_copies_98 : decode cX6_copies 98 = .ok (.bipush 10, 2) := by decide +kernel
theorem dX6_copies_100 : decode cX6_copies 100 = .ok (.invokestatic 76, 3) := by decide +kernel
theorem dX6_copies_103 : decode cX6_copies 103 = .ok (.aload_n 1, 1) := by decide +kernel
theorem dX6_copies_104 : decode cX6_copies 104 = .ok (.getfield 49, 3) := by decide +kernel
theorem dX6_copies_107 : decode cX6_copies 107 = .ok (.iconst 0, 1) := by decide +kernel
theorem dX6_copies_108 : decode cX6_copies 108 = .ok (.aload_n 0, 1) := by decide +kernel
theorem dX6_copies_109 : decode cX6_copies 109 = .ok (.getfield 49, 3) := by decide +kernel
theorem dX6_copies_112 : decode cX6_copies 112 = .ok (.iconst 0, 1) := by decide +kernel
theorem dX6_copies_113 : decode cX6_copies 113 = .ok (.bipush 8, 2) := by decide +kernel
theorem dX6_copies_115 : decode cX6_copies 115 = .ok (.invokestatic 76, 3) := by decide +kernel
theorem dX6_copies_118 : decode cX6_copies 118 = .ok (.aload_n 1, 1) := by decide +kernel
theorem dX6_copies_119 : decode cX6_copies 119 = .ok (.getfield 52, 3) := by decide +kernel
theorem dX6_copies_122 : decode cX6_copies 122 = .ok (.iconst 0, 1) := by decide +kernel
theorem dX6_copies_123 : decode cX6_copies 123 = .ok (.aload_n 0, 1) := by decide +kernel
theorem dX6_copies_124 : decode cX6_copies 124 = .ok (.getfield 52, 3) := by decide +kernel
theorem dX6_copies_127 : decode cX6_copies 127 = .ok (.iconst 0, 1) := by decide +kernel
theorem dX6_copies_128 : decode cX6_copies 128 = .ok (.bipush 48, 2) := by decide +kernel
theorem dX6_copies_130 : decode cX6_copies 130 = .ok (.invokestatic 76, 3) := by decide +kernel
theorem dX6_copies_133 : decode cX6_copies 133 = .ok (.aload_n 1, 1) := by decide +kernel
theorem dX6_copies_134 : decode cX6_copies 134 = .ok (.getfield 55, 3) := by decide +kernel
theorem dX6_copies_137 : decode cX6_copies 137 = .ok (.iconst 0, 1) := by decide +kernel
theorem dX6_copies_138 : decode cX6_copies 138 = .ok (.aload_n 0, 1) := by decide +kernel
theorem dX6_copies_139 : decode cX6_copies 139 = .ok (.getfield 55, 3) := by decide +kernel
theorem dX6_copies_142 : decode cX6_copies 142 = .ok (.iconst 0, 1) := by decide +kernel
theorem dX6_copies_143 : decode cX6_copies 143 = .ok (.iconst 5, 1) := by decide +kernel
theorem dX6_copies_144 : decode cX6_copies 144 = .ok (.invokestatic 76, 3) := by decide +kernel
theorem dX6_copies_147 : decode cX6_copies 147 = .ok (.aload_n 1, 1) := by decide +kernel
theorem dX6_copies_148 : decode cX6_copies 148 = .ok (.getfield 58, 3) := by decide +kernel
theorem dX6_copies_151 : decode cX6_copies 151 = .ok (.iconst 0, 1) := by decide +kernel
theorem dX6_copies_152 : decode cX6_copies 152 = .ok (.aload_n 0, 1) := by decide +kernel
theorem dX6_copies_153 : decode cX6_copies 153 = .ok (.getfield 58, 3) := by decide +kernel
theorem dX6_copies_156 : decode cX6_copies 156 = .ok (.iconst 0, 1) := by decide +kernel
theorem dX6_copies_157 : decode cX6_copies 157 = .ok (.iconst 5, 1) := by decide +kernel
theorem dX6_copies_158 : decode cX6_copies 158 = .ok (.invokestatic 76, 3) := by decide +kernel
theorem dX6_copies_161 : decode cX6_copies 161 = .ok (.aload_n 1, 1) := by decide +kernel
theorem dX6_copies_162 : decode cX6_copies 162 = .ok (.getfield 61, 3) := by decide +kernel
theorem dX6_copies_165 : decode cX6_copies 165 = .ok (.iconst 0, 1) := by decide +kernel
theorem dX6_copies_166 : decode cX6_copies 166 = .ok (.aload_n 0, 1) := by decide +kernel
theorem dX6_copies_167 : decode cX6_copies 167 = .ok (.getfield 61, 3) := by decide +kernel
theorem dX6_copies_170 : decode cX6_copies 170 = .ok (.iconst 0, 1) := by decide +kernel
theorem dX6_copies_171 : decode cX6_copies 171 = .ok (.iconst 5, 1) := by decide +kernel
theorem dX6_copies_172 : decode cX6_copies 172 = .ok (.invokestatic 76, 3) := by decide +kernel
theorem dX6_copies_175 : decode cX6_copies 175 = .ok (.aload_n 1, 1) := by decide +kernel
theorem dX6_copies_176 : decode cX6_copies 176 = .ok (.getfield 64, 3) := by decide +kernel
theorem dX6_copies_179 : decode cX6_copies 179 = .ok (.iconst 0, 1) := by decide +kernel
theorem dX6_copies_180 : decode cX6_copies 180 = .ok (.aload_n 0, 1) := by decide +kernel
theorem dX6_copies_181 : decode cX6_copies 181 = .ok (.getfield 64, 3) := by decide +kernel
theorem dX6_copies_184 : decode cX6_copies 184 = .ok (.iconst 0, 1) := by decide +kernel
theorem dX6_copies_185 : decode cX6_copies 185 = .ok (.iconst 5, 1) := by decide +kernel
theorem dX6_copies_186 : decode cX6_copies 186 = .ok (.invokestatic 76, 3) := by decide +kernel
theorem dX6_copies_189 : decode cX6_copies 189 = .ok (.aload_n 1, 1) := by decide +kernel
theorem dX6_copies_190 : decode cX6_copies 190 = .ok (.getfield 67, 3) := by decide +kernel
theorem dX6_copies_193 : decode cX6_copies 193 = .ok (.iconst 0, 1) := by decide +kernel
theorem dX6_copies_194 : decode cX6_copies 194 = .ok (.aload_n 0, 1) := by decide +kernel
theorem dX6_copies_195 : decode cX6_copies 195 = .ok (.getfield 67, 3) := by decide +kernel
theorem dX6_copies_198 : decode cX6_copies 198 = .ok (.iconst 0, 1) := by decide +kernel
theorem dX6_copies_199 : decode cX6_copies 199 = .ok (.iconst 5, 1) := by decide +kernel
theorem dX6_copies_200 : decode cX6_copies 200 = .ok (.invokestatic 76, 3) := by decide +kernel
theorem dX6_copies_203 : decode cX6_copies 203 = .ok (.return_, 1) := by decide +kernel
theorem dX6_sits_0 : decode cX6_sits 0 = .ok (.aload_n 0, 1) := by decide +kernel
theorem dX6_sits_1 : decode cX6_sits 1 = .ok (.getfield 9, 3) := by decide +kernel
theorem dX6_sits_4 : decode cX6_sits 4 = .ok (.bipush 8, 2) := by decide +kernel
theorem dX6_sits_6 : decode cX6_sits 6 = .ok (.if_icmp .ge 13, 3) := by decide +kernel
theorem dX6_sits_9 : decode cX6_sits 9 = .ok (.iload_n 1, 1) := by decide +kernel
theorem dX6_sits_10 : decode cX6_sits 10 = .ok (.ifCond .lt 9, 3) := by decide +kernel
theorem dX6_sits_13 : decode cX6_sits 13 = .ok (.iload_n 1, 1) := by decide +kernel
theorem dX6_sits_14 : decode cX6_sits 14 = .ok (.bipush 10, 2) := by decide +kernel
theorem dX6_sits_16 : decode cX6_sits 16 = .ok (.if_icmp .lt 4, 3) := by decide +kernel
theorem dX6_sits_19 : decode cX6_sits 19 = .ok (.return_, 1) := by decide +kernel
theorem dX6_sits_20 : decode cX6_sits 20 = .ok (.aload_n 0, 1) := by decide +kernel
theorem dX6_sits_21 : decode cX6_sits 21 = .ok (.getfield 45, 3) := by decide +kernel
theorem dX6_sits_24 : decode cX6_sits 24 = .ok (.iload_n 1, 1) := by decide +kernel
theorem dX6_sits_25 : decode cX6_sits 25 = .ok (.aload_n 0, 1) := by decide +kernel
theorem dX6_sits_26 : decode cX6_sits 26 = .ok (.getfield 9, 3) := by decide +kernel
theorem dX6_sits_29 : decode cX6_sits 29 = .ok (.iastore, 1) := by decide +kernel
theorem dX6_sits_30 : decode cX6_sits 30 = .ok (.aload_n 0, 1) := by decide +kernel
theorem dX6_sits_31 : decode cX6_sits 31 = .ok (.getfield 49, 3) := by decide +kernel
theorem dX6_sits_34 : decode cX6_sits 34 = .ok (.aload_n 0, 1) := by decide +kernel
theorem dX6_sits_35 : decode cX6_sits 35 = .ok (.getfield 9, 3) := by decide +kernel
theorem dX6_sits_38 : decode cX6_sits 38 = .ok (.iload_n 2, 1) := by decide +kernel
theorem dX6_sits_39 : decode cX6_sits 39 = .ok (.iastore, 1) := by decide +kernel
theorem dX6_sits_40 : decode cX6_sits 40 = .ok (.aload_n 0, 1) := by decide +kernel
theorem dX6_sits_41 : decode cX6_sits 41 = .ok (.iload_n 3, 1) := by decide +kernel
theorem dX6_sits_42 : decode cX6_sits 42 = .ok (.ifCond .eq 17, 3) := by decide +kernel
theorem dX6_sits_45 : decode cX6_sits 45 = .ok (.aload_n 0, 1) := by decide +kernel
theorem dX6_sits_46 : decode cX6_sits 46 = .ok (.getfield 18, 3) := by decide +kernel
theorem dX6_sits_49 : decode cX6_sits 49 = .ok (.iconst 1, 1) := by decide +kernel
theorem dX6_sits_50 : decode cX6_sits 50 = .ok (.aload_n 0, 1) := by decide +kernel
theorem dX6_sits_51 : decode cX6_sits 51 = .ok (.getfield 9, 3) := by decide +kernel
theorem dX6_sits_54 : decode cX6_sits 54 = .ok (.ishl, 1) := by decide +kernel
theorem dX6_sits_55 : decode cX6_sits 55 = .ok (.ior, 1) := by decide +kernel
theorem dX6_sits_56 : decode cX6_sits 56 = .ok (.goto 7, 3) := by decide +kernel
theorem dX6_sits_59 : decode cX6_sits 59 = .ok (.aload_n 0, 1) := by decide +kernel
theorem dX6_sits_60 : decode cX6_sits 60 = .ok (.getfield 18, 3) := by decide +kernel
theorem dX6_sits_63 : decode cX6_sits 63 = .ok (.putfield 18, 3) := by decide +kernel
theorem dX6_sits_66 : decode cX6_sits 66 = .ok (.aload_n 0, 1) := by decide +kernel
theorem dX6_sits_67 : decode cX6_sits 67 = .ok (.dup, 1) := by decide +kernel
theorem dX6_sits_68 : decode cX6_sits 68 = .ok (.getfield 9, 3) := by decide +kernel
theorem dX6_sits_71 : decode cX6_sits 71 = .ok (.iconst 1, 1) := by decide +kernel
theorem dX6_sits_72 : decode cX6_sits 72 = .ok (.iadd, 1) := by decide +kernel
theorem dX6_sits_73 : decode cX6_sits 73 = .ok (.putfield 9, 3) := by decide +kernel
theorem dX6_sits_76 : decode cX6_sits 76 = .ok (.return_, 1) := by decide +kernel
theorem dX6_stands_0 : decode cX6_stands 0 = .ok (.aload_n 0, 1) := by decide +kernel
theorem dX6_stands_1 : decode cX6_stands 1 = .ok (.getfield 15, 3) := by decide +kernel
theorem dX6_stands_4 : decode cX6_stands 4 = .ok (.iconst 5, 1) := by decide +kernel
theorem dX6_stands_5 : decode cX6_stands 5 = .ok (.if_icmp .lt 4, 3) := by decide +kernel
theorem dX6_stands_8 : decode cX6_stands 8 = .ok (.return_, 1) := by decide +kernel
theorem dX6_stands_9 : decode cX6_stands 9 = .ok (.aload_n 0, 1) := by decide +kernel
theorem dX6_stands_10 : decode cX6_stands 10 = .ok (.getfield 55, 3) := by decide +kernel
theorem dX6_stands_13 : decode cX6_stands 13 = .ok (.aload_n 0, 1) := by decide +kernel
theorem dX6_stands_14 : decode cX6_stands 14 = .ok (.getfield 15, 3) := by decide +kernel
theorem dX6_stands_17 : decode cX6_stands 17 = .ok (.iload_n 1, 1) := by decide +kernel
theorem dX6_stands_18 : decode cX6_stands 18 = .ok (.iastore, 1) := by decide +kernel
theorem dX6_stands_19 : decode cX6_stands 19 = .ok (.aload_n 0, 1) := by decide +kernel
theorem dX6_stands_20 : decode cX6_stands 20 = .ok (.getfield 58, 3) := by decide +kernel
theorem dX6_stands_23 : decode cX6_stands 23 = .ok (.aload_n 0, 1) := by decide +kernel
theorem dX6_stands_24 : decode cX6_stands 24 = .ok (.getfield 15, 3) := by decide +kernel
theorem dX6_stands_27 : decode cX6_stands 27 = .ok (.iload_n 2, 1) := by decide +kernel
theorem dX6_stands_28 : decode cX6_stands 28 = .ok (.iastore, 1) := by decide +kernel
theorem dX6_stands_29 : decode cX6_stands 29 = .ok (.aload_n 0, 1) := by decide +kernel
theorem dX6_stands_30 : decode cX6_stands 30 = .ok (.getfield 61, 3) := by decide +kernel
theorem dX6_stands_33 : decode cX6_stands 33 = .ok (.aload_n 0, 1) := by decide +kernel
theorem dX6_stands_34 : decode cX6_stands 34 = .ok (.getfield 15, 3) := by decide +kernel
theorem dX6_stands_37 : decode cX6_stands 37 = .ok (.iload_n 3, 1) := by decide +kernel
theorem dX6_stands_38 : decode cX6_stands 38 = .ok (.iastore, 1) := by decide +kernel
theorem dX6_stands_39 : decode cX6_stands 39 = .ok (.aload_n 0, 1) := by decide +kernel
theorem dX6_stands_40 : decode cX6_stands 40 = .ok (.getfield 64, 3) := by decide +kernel
theorem dX6_stands_43 : decode cX6_stands 43 = .ok (.aload_n 0, 1) := by decide +kernel
theorem dX6_stands_44 : decode cX6_stands 44 = .ok (.getfield 15, 3) := by decide +kernel
theorem dX6_stands_47 : decode cX6_stands 47 = .ok (.iload 4, 2) := by decide +kernel
theorem dX6_stands_49 : decode cX6_stands 49 = .ok (.iastore, 1) := by decide +kernel
theorem dX6_stands_50 : decode cX6_stands 50 = .ok (.aload_n 0, 1) := by decide +kernel
theorem dX6_stands_51 : decode cX6_stands 51 = .ok (.getfield 67, 3) := by decide +kernel
theorem dX6_stands_54 : decode cX6_stands 54 = .ok (.aload_n 0, 1) := by decide +kernel
theorem dX6_stands_55 : decode cX6_stands 55 = .ok (.getfield 15, 3) := by decide +kernel
theorem dX6_stands_58 : decode cX6_stands 58 = .ok (.iload 5, 2) := by decide +kernel
theorem dX6_stands_60 : decode cX6_stands 60 = .ok (.iastore, 1) := by decide +kernel
theorem dX6_stands_61 : decode cX6_stands 61 = .ok (.aload_n 0, 1) := by decide +kernel
theorem dX6_stands_62 : decode cX6_stands 62 = .ok (.dup, 1) := by decide +kernel
theorem dX6_stands_63 : decode cX6_stands 63 = .ok (.getfield 15, 3) := by decide +kernel
theorem dX6_stands_66 : decode cX6_stands 66 = .ok (.iconst 1, 1) := by decide +kernel
theorem dX6_stands_67 : decode cX6_stands 67 = .ok (.iadd, 1) := by decide +kernel
theorem dX6_stands_68 : decode cX6_stands 68 = .ok (.putfield 15, 3) := by decide +kernel
theorem dX6_stands_71 : decode cX6_stands 71 = .ok (.return_, 1) := by decide +kernel
theorem dX6_serves_0 : decode cX6_serves 0 = .ok (.aload_n 0, 1) := by decide +kernel
theorem dX6_serves_1 : decode cX6_serves 1 = .ok (.iload_n 2, 1) := by decide +kernel
theorem dX6_serves_2 : decode cX6_serves 2 = .ok (.ifCond .eq 14, 3) := by decide +kernel
theorem dX6_serves_5 : decode cX6_serves 5 = .ok (.aload_n 0, 1) := by decide +kernel
theorem dX6_serves_6 : decode cX6_serves 6 = .ok (.getfield 21, 3) := by decide +kernel
theorem dX6_serves_9 : decode cX6_serves 9 = .ok (.iconst 1, 1) := by decide +kernel
theorem dX6_serves_10 : decode cX6_serves 10 = .ok (.iload_n 1, 1) := by decide +kernel
theorem dX6_serves_11 : decode cX6_serves 11 = .ok (.ishl, 1) := by decide +kernel
theorem dX6_serves_12 : decode cX6_serves 12 = .ok (.ior, 1) := by decide +kernel
theorem dX6_serves_13 : decode cX6_serves 13 = .ok (.goto 13, 3) := by decide +kernel
theorem dX6_serves_16 : decode cX6_serves 16 = .ok (.aload_n 0, 1) := by decide +kernel
theorem dX6_serves_17 : decode cX6_serves 17 = .ok (.getfield 21, 3) := by decide +kernel
theorem dX6_serves_20 : decode cX6_serves 20 = .ok (.iconst 1, 1) := by decide +kernel
theorem dX6_serves_21 : decode cX6_serves 21 = .ok (.iload_n 1, 1) := by decide +kernel
theorem dX6_serves_22 : decode cX6_serves 22 = .ok (.ishl, 1) := by decide +kernel
theorem dX6_serves_23 : decode cX6_serves 23 = .ok (.iconst (-1), 1) := by decide +kernel
theorem dX6_serves_24 : decode cX6_serves 24 = .ok (.ixor, 1) := by decide +kernel
theorem dX6_serves_25 : decode cX6_serves 25 = .ok (.iand, 1) := by decide +kernel
theorem dX6_serves_26 : decode cX6_serves 26 = .ok (.putfield 21, 3) := by decide +kernel
theorem dX6_serves_29 : decode cX6_serves 29 = .ok (.return_, 1) := by decide +kernel
theorem dX6_changesAbout_0 : decode cX6_changesAbout 0 = .ok (.iload_n 1, 1) := by decide +kernel
theorem dX6_changesAbout_1 : decode cX6_changesAbout 1 = .ok (.ifCond .lt 19, 3) := by decide +kernel
theorem dX6_changesAbout_4 : decode cX6_changesAbout 4 = .ok (.iload_n 1, 1) := by decide +kernel
theorem dX6_changesAbout_5 : decode cX6_changesAbout 5 = .ok (.bipush 10, 2) := by decide +kernel
theorem dX6_changesAbout_7 : decode cX6_changesAbout 7 = .ok (.if_icmp .ge 13, 3) := by decide +kernel
theorem dX6_changesAbout_10 : decode cX6_changesAbout 10 = .ok (.iload_n 2, 1) := by decide +kernel
theorem dX6_changesAbout_11 : decode cX6_changesAbout 11 = .ok (.ifCond .lt 9, 3) := by decide +kernel
theorem dX6_changesAbout_14 : decode cX6_changesAbout 14 = .ok (.iload_n 2, 1) := by decide +kernel
theorem dX6_changesAbout_15 : decode cX6_changesAbout 15 = .ok (.bipush 10, 2) := by decide +kernel
theorem dX6_changesAbout_17 : decode cX6_changesAbout 17 = .ok (.if_icmp .lt 4, 3) := by decide +kernel
theorem dX6_changesAbout_20 : decode cX6_changesAbout 20 = .ok (.return_, 1) := by decide +kernel
theorem dX6_changesAbout_21 : decode cX6_changesAbout 21 = .ok (.aload_n 0, 1) := by decide +kernel
theorem dX6_changesAbout_22 : decode cX6_changesAbout 22 = .ok (.getfield 45, 3) := by decide +kernel
theorem dX6_changesAbout_25 : decode cX6_changesAbout 25 = .ok (.iload_n 1, 1) := by decide +kernel
theorem dX6_changesAbout_26 : decode cX6_changesAbout 26 = .ok (.iaload, 1) := by decide +kernel
theorem dX6_changesAbout_27 : decode cX6_changesAbout 27 = .ok (.istore_n 3, 1) := by decide +kernel
theorem dX6_changesAbout_28 : decode cX6_changesAbout 28 = .ok (.aload_n 0, 1) := by decide +kernel
theorem dX6_changesAbout_29 : decode cX6_changesAbout 29 = .ok (.getfield 45, 3) := by decide +kernel
theorem dX6_changesAbout_32 : decode cX6_changesAbout 32 = .ok (.iload_n 1, 1) := by decide +kernel
theorem dX6_changesAbout_33 : decode cX6_changesAbout 33 = .ok (.aload_n 0, 1) := by decide +kernel
theorem dX6_changesAbout_34 : decode cX6_changesAbout 34 = .ok (.getfield 45, 3) := by decide +kernel
theorem dX6_changesAbout_37 : decode cX6_changesAbout 37 = .ok (.iload_n 2, 1) := by decide +kernel
theorem dX6_changesAbout_38 : decode cX6_changesAbout 38 = .ok (.iaload, 1) := by decide +kernel
theorem dX6_changesAbout_39 : decode cX6_changesAbout 39 = .ok (.iastore, 1) := by decide +kernel
theorem dX6_changesAbout_40 : decode cX6_changesAbout 40 = .ok (.aload_n 0, 1) := by decide +kernel
theorem dX6_changesAbout_41 : decode cX6_changesAbout 41 = .ok (.getfield 45, 3) := by decide +kernel
theorem dX6_changesAbout_44 : decode cX6_changesAbout 44 = .ok (.iload_n 2, 1) := by decide +kernel
theorem dX6_changesAbout_45 : decode cX6_changesAbout 45 = .ok (.iload_n 3, 1) := by decide +kernel
theorem dX6_changesAbout_46 : decode cX6_changesAbout 46 = .ok (.iastore, 1) := by decide +kernel
theorem dX6_changesAbout_47 : decode cX6_changesAbout 47 = .ok (.return_, 1) := by decide +kernel
theorem dX6_dinerAt_0 : decode cX6_dinerAt 0 = .ok (.iload_n 1, 1) := by decide +kernel
theorem dX6_dinerAt_1 : decode cX6_dinerAt 1 = .ok (.ifCond .lt 18, 3) := by decide +kernel
theorem dX6_dinerAt_4 : decode cX6_dinerAt 4 = .ok (.iload_n 1, 1) := by decide +kernel
theorem dX6_dinerAt_5 : decode cX6_dinerAt 5 = .ok (.bipush 10, 2) := by decide +kernel
theorem dX6_dinerAt_7 : decode cX6_dinerAt 7 = .ok (.if_icmp .ge 12, 3) := by decide +kernel
theorem dX6_dinerAt_10 : decode cX6_dinerAt 10 = .ok (.aload_n 0, 1) := by decide +kernel
theorem dX6_dinerAt_11 : decode cX6_dinerAt 11 = .ok (.getfield 45, 3) := by decide +kernel
theorem dX6_dinerAt_14 : decode cX6_dinerAt 14 = .ok (.iload_n 1, 1) := by decide +kernel
theorem dX6_dinerAt_15 : decode cX6_dinerAt 15 = .ok (.iaload, 1) := by decide +kernel
theorem dX6_dinerAt_16 : decode cX6_dinerAt 16 = .ok (.goto 4, 3) := by decide +kernel
theorem dX6_dinerAt_19 : decode cX6_dinerAt 19 = .ok (.iconst (-1), 1) := by decide +kernel
theorem dX6_dinerAt_20 : decode cX6_dinerAt 20 = .ok (.ireturn, 1) := by decide +kernel
theorem dX6_seatOf_0 : decode cX6_seatOf 0 = .ok (.iconst 0, 1) := by decide +kernel
theorem dX6_seatOf_1 : decode cX6_seatOf 1 = .ok (.istore_n 2, 1) := by decide +kernel
theorem dX6_seatOf_2 : decode cX6_seatOf 2 = .ok (.iload_n 2, 1) := by decide +kernel
theorem dX6_seatOf_3 : decode cX6_seatOf 3 = .ok (.bipush 10, 2) := by decide +kernel
theorem dX6_seatOf_5 : decode cX6_seatOf 5 = .ok (.if_icmp .ge 21, 3) := by decide +kernel
theorem dX6_seatOf_8 : decode cX6_seatOf 8 = .ok (.aload_n 0, 1) := by decide +kernel
theorem dX6_seatOf_9 : decode cX6_seatOf 9 = .ok (.getfield 45, 3) := by decide +kernel
theorem dX6_seatOf_12 : decode cX6_seatOf 12 = .ok (.iload_n 2, 1) := by decide +kernel
theorem dX6_seatOf_13 : decode cX6_seatOf 13 = .ok (.iaload, 1) := by decide +kernel
theorem dX6_seatOf_14 : decode cX6_seatOf 14 = .ok (.iload_n 1, 1) := by decide +kernel
theorem dX6_seatOf_15 : decode cX6_seatOf 15 = .ok (.if_icmp .ne 5, 3) := by decide +kernel
theorem dX6_seatOf_18 : decode cX6_seatOf 18 = .ok (.iload_n 2, 1) := by decide +kernel
theorem dX6_seatOf_19 : decode cX6_seatOf 19 = .ok (.ireturn, 1) := by decide +kernel
theorem dX6_seatOf_20 : decode cX6_seatOf 20 = .ok (.iinc 2 1, 3) := by decide +kernel
theorem dX6_seatOf_23 : decode cX6_seatOf 23 = .ok (.goto (-21), 3) := by decide +kernel
theorem dX6_seatOf_26 : decode cX6_seatOf 26 = .ok (.iconst (-1), 1) := by decide +kernel
theorem dX6_seatOf_27 : decode cX6_seatOf 27 = .ok (.ireturn, 1) := by decide +kernel
theorem dX6_isOnDiet_0 : decode cX6_isOnDiet 0 = .ok (.aload_n 0, 1) := by decide +kernel
theorem dX6_isOnDiet_1 : decode cX6_isOnDiet 1 = .ok (.getfield 18, 3) := by decide +kernel
theorem dX6_isOnDiet_4 : decode cX6_isOnDiet 4 = .ok (.iload_n 1, 1) := by decide +kernel
theorem dX6_isOnDiet_5 : decode cX6_isOnDiet 5 = .ok (.ishr, 1) := by decide +kernel
theorem dX6_isOnDiet_6 : decode cX6_isOnDiet 6 = .ok (.iconst 1, 1) := by decide +kernel
theorem dX6_isOnDiet_7 : decode cX6_isOnDiet 7 = .ok (.iand, 1) := by decide +kernel
theorem dX6_isOnDiet_8 : decode cX6_isOnDiet 8 = .ok (.iconst 1, 1) := by decide +kernel
theorem dX6_isOnDiet_9 : decode cX6_isOnDiet 9 = .ok (.if_icmp .ne 7, 3) := by decide +kernel
theorem dX6_isOnDiet_12 : decode cX6_isOnDiet 12 = .ok (.iconst 1, 1) := by decide +kernel
theorem dX6_isOnDiet_13 : decode cX6_isOnDiet 13 = .ok (.goto 4, 3) := by decide +kernel
theorem dX6_isOnDiet_16 : decode cX6_isOnDiet 16 = .ok (.iconst 0, 1) := by decide +kernel
theorem dX6_isOnDiet_17 : decode cX6_isOnDiet 17 = .ok (.ireturn, 1) := by decide +kernel
theorem dX6_hasOf_0 : decode cX6_hasOf 0 = .ok (.iload_n 1, 1) := by decide +kernel
theorem dX6_hasOf_1 : decode cX6_hasOf 1 = .ok (.bipush 6, 2) := by decide +kernel
theorem dX6_hasOf_3 : decode cX6_hasOf 3 = .ok (.imul, 1) := by decide +kernel
theorem dX6_hasOf_4 : decode cX6_hasOf 4 = .ok (.iload_n 2, 1) := by decide +kernel
theorem dX6_hasOf_5 : decode cX6_hasOf 5 = .ok (.iadd, 1) := by decide +kernel
theorem dX6_hasOf_6 : decode cX6_hasOf 6 = .ok (.istore_n 3, 1) := by decide +kernel
theorem dX6_hasOf_7 : decode cX6_hasOf 7 = .ok (.iload_n 3, 1) := by decide +kernel
theorem dX6_hasOf_8 : decode cX6_hasOf 8 = .ok (.ifCond .lt 18, 3) := by decide +kernel
theorem dX6_hasOf_11 : decode cX6_hasOf 11 = .ok (.iload_n 3, 1) := by decide +kernel
theorem dX6_hasOf_12 : decode cX6_hasOf 12 = .ok (.bipush 48, 2) := by decide +kernel
theorem dX6_hasOf_14 : decode cX6_hasOf 14 = .ok (.if_icmp .ge 12, 3) := by decide +kernel
theorem dX6_hasOf_17 : decode cX6_hasOf 17 = .ok (.aload_n 0, 1) := by decide +kernel
theorem dX6_hasOf_18 : decode cX6_hasOf 18 = .ok (.getfield 52, 3) := by decide +kernel
theorem dX6_hasOf_21 : decode cX6_hasOf 21 = .ok (.iload_n 3, 1) := by decide +kernel
theorem dX6_hasOf_22 : decode cX6_hasOf 22 = .ok (.iaload, 1) := by decide +kernel
theorem dX6_hasOf_23 : decode cX6_hasOf 23 = .ok (.goto 4, 3) := by decide +kernel
theorem dX6_hasOf_26 : decode cX6_hasOf 26 = .ok (.iconst 0, 1) := by decide +kernel
theorem dX6_hasOf_27 : decode cX6_hasOf 27 = .ok (.ireturn, 1) := by decide +kernel
theorem dX6_gains_0 : decode cX6_gains 0 = .ok (.iload_n 1, 1) := by decide +kernel
theorem dX6_gains_1 : decode cX6_gains 1 = .ok (.bipush 6, 2) := by decide +kernel
theorem dX6_gains_3 : decode cX6_gains 3 = .ok (.imul, 1) := by decide +kernel
theorem dX6_gains_4 : decode cX6_gains 4 = .ok (.iload_n 2, 1) := by decide +kernel
theorem dX6_gains_5 : decode cX6_gains 5 = .ok (.iadd, 1) := by decide +kernel
theorem dX6_gains_6 : decode cX6_gains 6 = .ok (.istore 4, 2) := by decide +kernel
theorem dX6_gains_8 : decode cX6_gains 8 = .ok (.iload 4, 2) := by decide +kernel
theorem dX6_gains_10 : decode cX6_gains 10 = .ok (.ifCond .lt 32, 3) := by decide +kernel
theorem dX6_gains_13 : decode cX6_gains 13 = .ok (.iload 4, 2) := by decide +kernel
theorem dX6_gains_15 : decode cX6_gains 15 = .ok (.bipush 48, 2) := by decide +kernel
theorem dX6_gains_17 : decode cX6_gains 17 = .ok (.if_icmp .ge 25, 3) := by decide +kernel
theorem dX6_gains_20 : decode cX6_gains 20 = .ok (.aload_n 0, 1) := by decide +kernel
theorem dX6_gains_21 : decode cX6_gains 21 = .ok (.getfield 52, 3) := by decide +kernel
theorem dX6_gains_24 : decode cX6_gains 24 = .ok (.iload 4, 2) := by decide +kernel
theorem dX6_gains_26 : decode cX6_gains 26 = .ok (.sipush 999, 3) := by decide +kernel
theorem dX6_gains_29 : decode cX6_gains 29 = .ok (.aload_n 0, 1) := by decide +kernel
theorem dX6_gains_30 : decode cX6_gains 30 = .ok (.getfield 52, 3) := by decide +kernel
theorem dX6_gains_33 : decode cX6_gains 33 = .ok (.iload 4, 2) := by decide +kernel
theorem dX6_gains_35 : decode cX6_gains 35 = .ok (.iaload, 1) := by decide +kernel
theorem dX6_gains_36 : decode cX6_gains 36 = .ok (.iload_n 3, 1) := by decide +kernel
theorem dX6_gains_37 : decode cX6_gains 37 = .ok (.iadd, 1) := by decide +kernel
theorem dX6_gains_38 : decode cX6_gains 38 = .ok (.invokestatic 82, 3) := by decide +kernel
theorem dX6_gains_41 : decode cX6_gains 41 = .ok (.iastore, 1) := by decide +kernel
theorem dX6_gains_42 : decode cX6_gains 42 = .ok (.return_, 1) := by decide +kernel
theorem dX6_hasInAll_0 : decode cX6_hasInAll 0 = .ok (.iconst 0, 1) := by decide +kernel
theorem dX6_hasInAll_1 : decode cX6_hasInAll 1 = .ok (.istore_n 2, 1) := by decide +kernel
theorem dX6_hasInAll_2 : decode cX6_hasInAll 2 = .ok (.iconst 0, 1) := by decide +kernel
theorem dX6_hasInAll_3 : decode cX6_hasInAll 3 = .ok (.istore_n 3, 1) := by decide +kernel
theorem dX6_hasInAll_4 : decode cX6_hasInAll 4 = .ok (.iload_n 3, 1) := by decide +kernel
theorem dX6_hasInAll_5 : decode cX6_hasInAll 5 = .ok (.bipush 6, 2) := by decide +kernel
theorem dX6_hasInAll_7 : decode cX6_hasInAll 7 = .ok (.if_icmp .ge 18, 3) := by decide +kernel
theorem dX6_hasInAll_10 : decode cX6_hasInAll 10 = .ok (.iload_n 2, 1) := by decide +kernel
theorem dX6_hasInAll_11 : decode cX6_hasInAll 11 = .ok (.aload_n 0, 1) := by decide +kernel
theorem dX6_hasInAll_12 : decode cX6_hasInAll 12 = .ok (.iload_n 1, 1) := by decide +kernel
theorem dX6_hasInAll_13 : decode cX6_hasInAll 13 = .ok (.iload_n 3, 1) := by decide +kernel
theorem dX6_hasInAll_14 : decode cX6_hasInAll 14 = .ok (.invokevirtual 88, 3) := by decide +kernel
theorem dX6_hasInAll_17 : decode cX6_hasInAll 17 = .ok (.iadd, 1) := by decide +kernel
theorem dX6_hasInAll_18 : decode cX6_hasInAll 18 = .ok (.istore_n 2, 1) := by decide +kernel
theorem dX6_hasInAll_19 : decode cX6_hasInAll 19 = .ok (.iinc 3 1, 3) := by decide +kernel
theorem dX6_hasInAll_22 : decode cX6_hasInAll 22 = .ok (.goto (-18), 3) := by decide +kernel
theorem dX6_hasInAll_25 : decode cX6_hasInAll 25 = .ok (.iload_n 2, 1) := by decide +kernel
theorem dX6_hasInAll_26 : decode cX6_hasInAll 26 = .ok (.ireturn, 1) := by decide +kernel
theorem dX6_mixed_0 : decode cX6_mixed 0 = .ok (.iconst 0, 1) := by decide +kernel
theorem dX6_mixed_1 : decode cX6_mixed 1 = .ok (.istore_n 2, 1) := by decide +kernel
theorem dX6_mixed_2 : decode cX6_mixed 2 = .ok (.iconst 0, 1) := by decide +kernel
theorem dX6_mixed_3 : decode cX6_mixed 3 = .ok (.istore_n 3, 1) := by decide +kernel
theorem dX6_mixed_4 : decode cX6_mixed 4 = .ok (.iload_n 3, 1) := by decide +kernel
theorem dX6_mixed_5 : decode cX6_mixed 5 = .ok (.bipush 6, 2) := by decide +kernel
theorem dX6_mixed_7 : decode cX6_mixed 7 = .ok (.if_icmp .ge 26, 3) := by decide +kernel
theorem dX6_mixed_10 : decode cX6_mixed 10 = .ok (.iload_n 2, 1) := by decide +kernel
theorem dX6_mixed_11 : decode cX6_mixed 11 = .ok (.aload_n 0, 1) := by decide +kernel
theorem dX6_mixed_12 : decode cX6_mixed 12 = .ok (.iload_n 1, 1) := by decide +kernel
theorem dX6_mixed_13 : decode cX6_mixed 13 = .ok (.iload_n 3, 1) := by decide +kernel
theorem dX6_mixed_14 : decode cX6_mixed 14 = .ok (.invokevirtual 88, 3) := by decide +kernel
theorem dX6_mixed_17 : decode cX6_mixed 17 = .ok (.ifCond .le 7, 3) := by decide +kernel
theorem dX6_mixed_20 : decode cX6_mixed 20 = .ok (.iconst 1, 1) := by decide +kernel
theorem dX6_mixed_21 : decode cX6_mixed 21 = .ok (.goto 4, 3) := by decide +kernel
theorem dX6_mixed_24 : decode cX6_mixed 24 = .ok (.iconst 0, 1) := by decide +kernel
theorem dX6_mixed_25 : decode cX6_mixed 25 = .ok (.iadd, 1) := by decide +kernel
theorem dX6_mixed_26 : decode cX6_mixed 26 = .ok (.istore_n 2, 1) := by decide +kernel
theorem dX6_mixed_27 : decode cX6_mixed 27 = .ok (.iinc 3 1, 3) := by decide +kernel
theorem dX6_mixed_30 : decode cX6_mixed 30 = .ok (.goto (-26), 3) := by decide +kernel
theorem dX6_mixed_33 : decode cX6_mixed 33 = .ok (.iload_n 2, 1) := by decide +kernel
theorem dX6_mixed_34 : decode cX6_mixed 34 = .ok (.ireturn, 1) := by decide +kernel
theorem dX6_mainTrait_0 : decode cX6_mainTrait 0 = .ok (.iconst (-1), 1) := by decide +kernel
theorem dX6_mainTrait_1 : decode cX6_mainTrait 1 = .ok (.istore_n 2, 1) := by decide +kernel
theorem dX6_mainTrait_2 : decode cX6_mainTrait 2 = .ok (.iconst 0, 1) := by decide +kernel
theorem dX6_mainTrait_3 : decode cX6_mainTrait 3 = .ok (.istore_n 3, 1) := by decide +kernel
theorem dX6_mainTrait_4 : decode cX6_mainTrait 4 = .ok (.iconst 0, 1) := by decide +kernel
theorem dX6_mainTrait_5 : decode cX6_mainTrait 5 = .ok (.istore 4, 2) := by decide +kernel
theorem dX6_mainTrait_7 : decode cX6_mainTrait 7 = .ok (.iload 4, 2) := by decide +kernel
theorem dX6_mainTrait_9 : decode cX6_mainTrait 9 = .ok (.bipush 6, 2) := by decide +kernel
theorem dX6_mainTrait_11 : decode cX6_mainTrait 11 = .ok (.if_icmp .ge 31, 3) := by decide +kernel
theorem dX6_mainTrait_14 : decode cX6_mainTrait 14 = .ok (.aload_n 0, 1) := by decide +kernel
theorem dX6_mainTrait_15 : decode cX6_mainTrait 15 = .ok (.iload_n 1, 1) := by decide +kernel
theorem dX6_mainTrait_16 : decode cX6_mainTrait 16 = .ok (.iload 4, 2) := by decide +kernel
theorem dX6_mainTrait_18 : decode cX6_mainTrait 18 = .ok (.invokevirtual 88, 3) := by decide +kernel
theorem dX6_mainTrait_21 : decode cX6_mainTrait 21 = .ok (.iload_n 3, 1) := by decide +kernel
theorem dX6_mainTrait_22 : decode cX6_mainTrait 22 = .ok (.if_icmp .le 14, 3) := by decide +kernel
theorem dX6_mainTrait_25 : decode cX6_mainTrait 25 = .ok (.aload_n 0, 1) := by decide +kernel
theorem dX6_mainTrait_26 : decode cX6_mainTrait 26 = .ok (.iload_n 1, 1) := by decide +kernel
theorem dX6_mainTrait_27 : decode cX6_mainTrait 27 = .ok (.iload 4, 2) := by decide +kernel
theorem dX6_mainTrait_29 : decode cX6_mainTrait 29 = .ok (.invokevirtual 88, 3) := by decide +kernel
theorem dX6_mainTrait_32 : decode cX6_mainTrait 32 = .ok (.istore_n 3, 1) := by decide +kernel
theorem dX6_mainTrait_33 : decode cX6_mainTrait 33 = .ok (.iload 4, 2) := by decide +kernel
theorem dX6_mainTrait_35 : decode cX6_mainTrait 35 = .ok (.istore_n 2, 1) := by decide +kernel
theorem dX6_mainTrait_36 : decode cX6_mainTrait 36 = .ok (.iinc 4 1, 3) := by decide +kernel
theorem dX6_mainTrait_39 : decode cX6_mainTrait 39 = .ok (.goto (-32), 3) := by decide +kernel
theorem dX6_mainTrait_42 : decode cX6_mainTrait 42 = .ok (.iload_n 2, 1) := by decide +kernel
theorem dX6_mainTrait_43 : decode cX6_mainTrait 43 = .ok (.ireturn, 1) := by decide +kernel
theorem dX6_grainsInAll_0 : decode cX6_grainsInAll 0 = .ok (.iconst 0, 1) := by decide +kernel
theorem dX6_grainsInAll_1 : decode cX6_grainsInAll 1 = .ok (.istore_n 1, 1) := by decide +kernel
theorem dX6_grainsInAll_2 : decode cX6_grainsInAll 2 = .ok (.iconst 0, 1) := by decide +kernel
theorem dX6_grainsInAll_3 : decode cX6_grainsInAll 3 = .ok (.istore_n 2, 1) := by decide +kernel
theorem dX6_grainsInAll_4 : decode cX6_grainsInAll 4 = .ok (.iload_n 2, 1) := by decide +kernel
theorem dX6_grainsInAll_5 : decode cX6_grainsInAll 5 = .ok (.aload_n 0, 1) := by decide +kernel
theorem dX6_grainsInAll_6 : decode cX6_grainsInAll 6 = .ok (.getfield 15, 3) := by decide +kernel
theorem dX6_grainsInAll_9 : decode cX6_grainsInAll 9 = .ok (.if_icmp .ge 23, 3) := by decide +kernel
theorem dX6_grainsInAll_12 : decode cX6_grainsInAll 12 = .ok (.iload_n 2, 1) := by decide +kernel
theorem dX6_grainsInAll_13 : decode cX6_grainsInAll 13 = .ok (.iconst 5, 1) := by decide +kernel
theorem dX6_grainsInAll_14 : decode cX6_grainsInAll 14 = .ok (.if_icmp .ge 18, 3) := by decide +kernel
theorem dX6_grainsInAll_17 : decode cX6_grainsInAll 17 = .ok (.iload_n 1, 1) := by decide +kernel
theorem dX6_grainsInAll_18 : decode cX6_grainsInAll 18 = .ok (.aload_n 0, 1) := by decide +kernel
theorem dX6_grainsInAll_19 : decode cX6_grainsInAll 19 = .ok (.getfield 61, 3) := by decide +kernel
theorem dX6_grainsInAll_22 : decode cX6_grainsInAll 22 = .ok (.iload_n 2, 1) := by decide +kernel
theorem dX6_grainsInAll_23 : decode cX6_grainsInAll 23 = .ok (.iaload, 1) := by decide +kernel
theorem dX6_grainsInAll_24 : decode cX6_grainsInAll 24 = .ok (.iadd, 1) := by decide +kernel
theorem dX6_grainsInAll_25 : decode cX6_grainsInAll 25 = .ok (.istore_n 1, 1) := by decide +kernel
theorem dX6_grainsInAll_26 : decode cX6_grainsInAll 26 = .ok (.iinc 2 1, 3) := by decide +kernel
theorem dX6_grainsInAll_29 : decode cX6_grainsInAll 29 = .ok (.goto (-25), 3) := by decide +kernel
theorem dX6_grainsInAll_32 : decode cX6_grainsInAll 32 = .ok (.iload_n 1, 1) := by decide +kernel
theorem dX6_grainsInAll_33 : decode cX6_grainsInAll 33 = .ok (.ireturn, 1) := by decide +kernel
theorem dX6_heldCellars_0 : decode cX6_heldCellars 0 = .ok (.iconst 0, 1) := by decide +kernel
theorem dX6_heldCellars_1 : decode cX6_heldCellars 1 = .ok (.istore_n 1, 1) := by decide +kernel
theorem dX6_heldCellars_2 : decode cX6_heldCellars 2 = .ok (.iconst 0, 1) := by decide +kernel
theorem dX6_heldCellars_3 : decode cX6_heldCellars 3 = .ok (.istore_n 2, 1) := by decide +kernel
theorem dX6_heldCellars_4 : decode cX6_heldCellars 4 = .ok (.iload_n 2, 1) := by decide +kernel
theorem dX6_heldCellars_5 : decode cX6_heldCellars 5 = .ok (.aload_n 0, 1) := by decide +kernel
theorem dX6_heldCellars_6 : decode cX6_heldCellars 6 = .ok (.getfield 15, 3) := by decide +kernel
theorem dX6_heldCellars_9 : decode cX6_heldCellars 9 = .ok (.if_icmp .ge 33, 3) := by decide +kernel
theorem dX6_heldCellars_12 : decode cX6_heldCellars 12 = .ok (.iload_n 2, 1) := by decide +kernel
theorem dX6_heldCellars_13 : decode cX6_heldCellars 13 = .ok (.iconst 5, 1) := by decide +kernel
theorem dX6_heldCellars_14 : decode cX6_heldCellars 14 = .ok (.if_icmp .ge 28, 3) := by decide +kernel
theorem dX6_heldCellars_17 : decode cX6_heldCellars 17 = .ok (.iload_n 1, 1) := by decide +kernel
theorem dX6_heldCellars_18 : decode cX6_heldCellars 18 = .ok (.aload_n 0, 1) := by decide +kernel
theorem dX6_heldCellars_19 : decode cX6_heldCellars 19 = .ok (.getfield 61, 3) := by decide +kernel
theorem dX6_heldCellars_22 : decode cX6_heldCellars 22 = .ok (.iload_n 2, 1) := by decide +kernel
theorem dX6_heldCellars_23 : decode cX6_heldCellars 23 = .ok (.iaload, 1) := by decide +kernel
theorem dX6_heldCellars_24 : decode cX6_heldCellars 24 = .ok (.ifCond .le 9, 3) := by decide +kernel
theorem dX6_heldCellars_27 : decode cX6_heldCellars 27 = .ok (.iconst 1, 1) := by decide +kernel
theorem dX6_heldCellars_28 : decode cX6_heldCellars 28 = .ok (.iload_n 2, 1) := by decide +kernel
theorem dX6_heldCellars_29 : decode cX6_heldCellars 29 = .ok (.ishl, 1) := by decide +kernel
theorem dX6_heldCellars_30 : decode cX6_heldCellars 30 = .ok (.goto 4, 3) := by decide +kernel
theorem dX6_heldCellars_33 : decode cX6_heldCellars 33 = .ok (.iconst 0, 1) := by decide +kernel
theorem dX6_heldCellars_34 : decode cX6_heldCellars 34 = .ok (.ior, 1) := by decide +kernel
theorem dX6_heldCellars_35 : decode cX6_heldCellars 35 = .ok (.istore_n 1, 1) := by decide +kernel
theorem dX6_heldCellars_36 : decode cX6_heldCellars 36 = .ok (.iinc 2 1, 3) := by decide +kernel
theorem dX6_heldCellars_39 : decode cX6_heldCellars 39 = .ok (.goto (-35), 3) := by decide +kernel
theorem dX6_heldCellars_42 : decode cX6_heldCellars 42 = .ok (.iload_n 1, 1) := by decide +kernel
theorem dX6_heldCellars_43 : decode cX6_heldCellars 43 = .ok (.ireturn, 1) := by decide +kernel
theorem dX6_heldAt_0 : decode cX6_heldAt 0 = .ok (.iconst 0, 1) := by decide +kernel
theorem dX6_heldAt_1 : decode cX6_heldAt 1 = .ok (.istore_n 2, 1) := by decide +kernel
theorem dX6_heldAt_2 : decode cX6_heldAt 2 = .ok (.iconst 0, 1) := by decide +kernel
theorem dX6_heldAt_3 : decode cX6_heldAt 3 = .ok (.istore_n 3, 1) := by decide +kernel
theorem dX6_heldAt_4 : decode cX6_heldAt 4 = .ok (.iload_n 3, 1) := by decide +kernel
theorem dX6_heldAt_5 : decode cX6_heldAt 5 = .ok (.aload_n 0, 1) := by decide +kernel
theorem dX6_heldAt_6 : decode cX6_heldAt 6 = .ok (.getfield 15, 3) := by decide +kernel
theorem dX6_heldAt_9 : decode cX6_heldAt 9 = .ok (.if_icmp .ge 43, 3) := by decide +kernel
theorem dX6_heldAt_12 : decode cX6_heldAt 12 = .ok (.iload_n 3, 1) := by decide +kernel
theorem dX6_heldAt_13 : decode cX6_heldAt 13 = .ok (.iconst 5, 1) := by decide +kernel
theorem dX6_heldAt_14 : decode cX6_heldAt 14 = .ok (.if_icmp .ge 38, 3) := by decide +kernel
theorem dX6_heldAt_17 : decode cX6_heldAt 17 = .ok (.iload_n 2, 1) := by decide +kernel
theorem dX6_heldAt_18 : decode cX6_heldAt 18 = .ok (.aload_n 0, 1) := by decide +kernel
theorem dX6_heldAt_19 : decode cX6_heldAt 19 = .ok (.getfield 61, 3) := by decide +kernel
theorem dX6_heldAt_22 : decode cX6_heldAt 22 = .ok (.iload_n 3, 1) := by decide +kernel
theorem dX6_heldAt_23 : decode cX6_heldAt 23 = .ok (.iaload, 1) := by decide +kernel
theorem dX6_heldAt_24 : decode cX6_heldAt 24 = .ok (.ifCond .le 19, 3) := by decide +kernel
theorem dX6_heldAt_27 : decode cX6_heldAt 27 = .ok (.aload_n 0, 1) := by decide +kernel
theorem dX6_heldAt_28 : decode cX6_heldAt 28 = .ok (.getfield 55, 3) := by decide +kernel
theorem dX6_heldAt_31 : decode cX6_heldAt 31 = .ok (.iload_n 3, 1) := by decide +kernel
theorem dX6_heldAt_32 : decode cX6_heldAt 32 = .ok (.iaload, 1) := by decide +kernel
theorem dX6_heldAt_33 : decode cX6_heldAt 33 = .ok (.iload_n 1, 1) := by decide +kernel
theorem dX6_heldAt_34 : decode cX6_heldAt 34 = .ok (.if_icmp .ne 9, 3) := by decide +kernel
theorem dX6_heldAt_37 : decode cX6_heldAt 37 = .ok (.iconst 1, 1) := by decide +kernel
theorem dX6_heldAt_38 : decode cX6_heldAt 38 = .ok (.iload_n 3, 1) := by decide +kernel
theorem dX6_heldAt_39 : decode cX6_heldAt 39 = .ok (.ishl, 1) := by decide +kernel
theorem dX6_heldAt_40 : decode cX6_heldAt 40 = .ok (.goto 4, 3) := by decide +kernel
theorem dX6_heldAt_43 : decode cX6_heldAt 43 = .ok (.iconst 0, 1) := by decide +kernel
theorem dX6_heldAt_44 : decode cX6_heldAt 44 = .ok (.ior, 1) := by decide +kernel
theorem dX6_heldAt_45 : decode cX6_heldAt 45 = .ok (.istore_n 2, 1) := by decide +kernel
theorem dX6_heldAt_46 : decode cX6_heldAt 46 = .ok (.iinc 3 1, 3) := by decide +kernel
theorem dX6_heldAt_49 : decode cX6_heldAt 49 = .ok (.goto (-45), 3) := by decide +kernel
theorem dX6_heldAt_52 : decode cX6_heldAt 52 = .ok (.iload_n 2, 1) := by decide +kernel
theorem dX6_heldAt_53 : decode cX6_heldAt 53 = .ok (.ireturn, 1) := by decide +kernel
theorem dX6_firstHeldAt_0 : decode cX6_firstHeldAt 0 = .ok (.iconst 0, 1) := by decide +kernel
theorem dX6_firstHeldAt_1 : decode cX6_firstHeldAt 1 = .ok (.istore_n 2, 1) := by decide +kernel
theorem dX6_firstHeldAt_2 : decode cX6_firstHeldAt 2 = .ok (.iload_n 2, 1) := by decide +kernel
theorem dX6_firstHeldAt_3 : decode cX6_firstHeldAt 3 = .ok (.aload_n 0, 1) := by decide +kernel
theorem dX6_firstHeldAt_4 : decode cX6_firstHeldAt 4 = .ok (.getfield 15, 3) := by decide +kernel
theorem dX6_firstHeldAt_7 : decode cX6_firstHeldAt 7 = .ok (.if_icmp .ge 35, 3) := by decide +kernel
theorem dX6_firstHeldAt_10 : decode cX6_firstHeldAt 10 = .ok (.iload_n 2, 1) := by decide +kernel
theorem dX6_firstHeldAt_11 : decode cX6_firstHeldAt 11 = .ok (.iconst 5, 1) := by decide +kernel
theorem dX6_firstHeldAt_12 : decode cX6_firstHeldAt 12 = .ok (.if_icmp .ge 30, 3) := by decide +kernel
theorem dX6_firstHeldAt_15 : decode cX6_firstHeldAt 15 = .ok (.aload_n 0, 1) := by decide +kernel
theorem dX6_firstHeldAt_16 : decode cX6_firstHeldAt 16 = .ok (.getfield 61, 3) := by decide +kernel
theorem dX6_firstHeldAt_19 : decode cX6_firstHeldAt 19 = .ok (.iload_n 2, 1) := by decide +kernel
theorem dX6_firstHeldAt_20 : decode cX6_firstHeldAt 20 = .ok (.iaload, 1) := by decide +kernel
theorem dX6_firstHeldAt_21 : decode cX6_firstHeldAt 21 = .ok (.ifCond .le 15, 3) := by decide +kernel
theorem dX6_firstHeldAt_24 : decode cX6_firstHeldAt 24 = .ok (.aload_n 0, 1) := by decide +kernel
theorem dX6_firstHeldAt_25 : decode cX6_firstHeldAt 25 = .ok (.getfield 55, 3) := by decide +kernel
theorem dX6_firstHeldAt_28 : decode cX6_firstHeldAt 28 = .ok (.iload_n 2, 1) := by decide +kernel
theorem dX6_firstHeldAt_29 : decode cX6_firstHeldAt 29 = .ok (.iaload, 1) := by decide +kernel
theorem dX6_firstHeldAt_30 : decode cX6_firstHeldAt 30 = .ok (.iload_n 1, 1) := by decide +kernel
theorem dX6_firstHeldAt_31 : decode cX6_firstHeldAt 31 = .ok (.if_icmp .ne 5, 3) := by decide +kernel
theorem dX6_firstHeldAt_34 : decode cX6_firstHeldAt 34 = .ok (.iload_n 2, 1) := by decide +kernel
theorem dX6_firstHeldAt_35 : decode cX6_firstHeldAt 35 = .ok (.ireturn, 1) := by decide +kernel
theorem dX6_firstHeldAt_36 : decode cX6_firstHeldAt 36 = .ok (.iinc 2 1, 3) := by decide +kernel
theorem dX6_firstHeldAt_39 : decode cX6_firstHeldAt 39 = .ok (.goto (-37), 3) := by decide +kernel
theorem dX6_firstHeldAt_42 : decode cX6_firstHeldAt 42 = .ok (.iconst (-1), 1) := by decide +kernel
theorem dX6_firstHeldAt_43 : decode cX6_firstHeldAt 43 = .ok (.ireturn, 1) := by decide +kernel
theorem dX6_draws_0 : decode cX6_draws 0 = .ok (.aload_n 0, 1) := by decide +kernel
theorem dX6_draws_1 : decode cX6_draws 1 = .ok (.ldc 91, 2) := by decide +kernel
theorem dX6_draws_3 : decode cX6_draws 3 = .ok (.aload_n 0, 1) := by decide +kernel
theorem dX6_draws_4 : decode cX6_draws 4 = .ok (.getfield 39, 3) := by decide +kernel
theorem dX6_draws_7 : decode cX6_draws 7 = .ok (.imul, 1) := by decide +kernel
theorem dX6_draws_8 : decode cX6_draws 8 = .ok (.sipush 12345, 3) := by decide +kernel
theorem dX6_draws_11 : decode cX6_draws 11 = .ok (.iadd, 1) := by decide +kernel
theorem dX6_draws_12 : decode cX6_draws 12 = .ok (.putfield 39, 3) := by decide +kernel
theorem dX6_draws_15 : decode cX6_draws 15 = .ok (.aload_n 0, 1) := by decide +kernel
theorem dX6_draws_16 : decode cX6_draws 16 = .ok (.getfield 39, 3) := by decide +kernel
theorem dX6_draws_19 : decode cX6_draws 19 = .ok (.bipush 16, 2) := by decide +kernel
theorem dX6_draws_21 : decode cX6_draws 21 = .ok (.iushr, 1) := by decide +kernel
theorem dX6_draws_22 : decode cX6_draws 22 = .ok (.sipush 32767, 3) := by decide +kernel
theorem dX6_draws_25 : decode cX6_draws 25 = .ok (.iand, 1) := by decide +kernel
theorem dX6_draws_26 : decode cX6_draws 26 = .ok (.ireturn, 1) := by decide +kernel
theorem dX6_passesOn_0 : decode cX6_passesOn 0 = .ok (.iconst 0, 1) := by decide +kernel
theorem dX6_passesOn_1 : decode cX6_passesOn 1 = .ok (.istore_n 1, 1) := by decide +kernel
theorem dX6_passesOn_2 : decode cX6_passesOn 2 = .ok (.iload_n 1, 1) := by decide +kernel
theorem dX6_passesOn_3 : decode cX6_passesOn 3 = .ok (.aload_n 0, 1) := by decide +kernel
theorem dX6_passesOn_4 : decode cX6_passesOn 4 = .ok (.getfield 15, 3) := by decide +kernel
theorem dX6_passesOn_7 : decode cX6_passesOn 7 = .ok (.if_icmp .ge 36, 3) := by decide +kernel
theorem dX6_passesOn_10 : decode cX6_passesOn 10 = .ok (.iload_n 1, 1) := by decide +kernel
theorem dX6_passesOn_11 : decode cX6_passesOn 11 = .ok (.iconst 5, 1) := by decide +kernel
theorem dX6_passesOn_12 : decode cX6_passesOn 12 = .ok (.if_icmp .ge 31, 3) := by decide +kernel
theorem dX6_passesOn_15 : decode cX6_passesOn 15 = .ok (.aload_n 0, 1) := by decide +kernel
theorem dX6_passesOn_16 : decode cX6_passesOn 16 = .ok (.getfield 55, 3) := by decide +kernel
theorem dX6_passesOn_19 : decode cX6_passesOn 19 = .ok (.iload_n 1, 1) := by decide +kernel
theorem dX6_passesOn_20 : decode cX6_passesOn 20 = .ok (.aload_n 0, 1) := by decide +kernel
theorem dX6_passesOn_21 : decode cX6_passesOn 21 = .ok (.getfield 55, 3) := by decide +kernel
theorem dX6_passesOn_24 : decode cX6_passesOn 24 = .ok (.iload_n 1, 1) := by decide +kernel
theorem dX6_passesOn_25 : decode cX6_passesOn 25 = .ok (.iaload, 1) := by decide +kernel
theorem dX6_passesOn_26 : decode cX6_passesOn 26 = .ok (.aload_n 0, 1) := by decide +kernel
theorem dX6_passesOn_27 : decode cX6_passesOn 27 = .ok (.getfield 67, 3) := by decide +kernel
theorem dX6_passesOn_30 : decode cX6_passesOn 30 = .ok (.iload_n 1, 1) := by decide +kernel
theorem dX6_passesOn_31 : decode cX6_passesOn 31 = .ok (.iaload, 1) := by decide +kernel
theorem dX6_passesOn_32 : decode cX6_passesOn 32 = .ok (.iadd, 1) := by decide +kernel
theorem dX6_passesOn_33 : decode cX6_passesOn 33 = .ok (.bipush 10, 2) := by decide +kernel
theorem dX6_passesOn_35 : decode cX6_passesOn 35 = .ok (.irem, 1) := by decide +kernel
theorem dX6_passesOn_36 : decode cX6_passesOn 36 = .ok (.iastore, 1) := by decide +kernel
theorem dX6_passesOn_37 : decode cX6_passesOn 37 = .ok (.iinc 1 1, 3) := by decide +kernel
theorem dX6_passesOn_40 : decode cX6_passesOn 40 = .ok (.goto (-38), 3) := by decide +kernel
theorem dX6_passesOn_43 : decode cX6_passesOn 43 = .ok (.aload_n 0, 1) := by decide +kernel
theorem dX6_passesOn_44 : decode cX6_passesOn 44 = .ok (.dup, 1) := by decide +kernel
theorem dX6_passesOn_45 : decode cX6_passesOn 45 = .ok (.getfield 24, 3) := by decide +kernel
theorem dX6_passesOn_48 : decode cX6_passesOn 48 = .ok (.iconst 1, 1) := by decide +kernel
theorem dX6_passesOn_49 : decode cX6_passesOn 49 = .ok (.iadd, 1) := by decide +kernel
theorem dX6_passesOn_50 : decode cX6_passesOn 50 = .ok (.putfield 24, 3) := by decide +kernel
theorem dX6_passesOn_53 : decode cX6_passesOn 53 = .ok (.aload_n 0, 1) := by decide +kernel
theorem dX6_passesOn_54 : decode cX6_passesOn 54 = .ok (.getfield 24, 3) := by decide +kernel
theorem dX6_passesOn_57 : decode cX6_passesOn 57 = .ok (.bipush 12, 2) := by decide +kernel
theorem dX6_passesOn_59 : decode cX6_passesOn 59 = .ok (.if_icmp .lt 24, 3) := by decide +kernel
theorem dX6_passesOn_62 : decode cX6_passesOn 62 = .ok (.aload_n 0, 1) := by decide +kernel
theorem dX6_passesOn_63 : decode cX6_passesOn 63 = .ok (.iconst 0, 1) := by decide +kernel
theorem dX6_passesOn_64 : decode cX6_passesOn 64 = .ok (.putfield 24, 3) := by decide +kernel
theorem dX6_passesOn_67 : decode cX6_passesOn 67 = .ok (.aload_n 0, 1) := by decide +kernel
theorem dX6_passesOn_68 : decode cX6_passesOn 68 = .ok (.sipush 9999, 3) := by decide +kernel
theorem dX6_passesOn_71 : decode cX6_passesOn 71 = .ok (.aload_n 0, 1) := by decide +kernel
theorem dX6_passesOn_72 : decode cX6_passesOn 72 = .ok (.getfield 27, 3) := by decide +kernel
theorem dX6_passesOn_75 : decode cX6_passesOn 75 = .ok (.iconst 1, 1) := by decide +kernel
theorem dX6_passesOn_76 : decode cX6_passesOn 76 = .ok (.iadd, 1) := by decide +kernel
theorem dX6_passesOn_77 : decode cX6_passesOn 77 = .ok (.invokestatic 82, 3) := by decide +kernel
theorem dX6_passesOn_80 : decode cX6_passesOn 80 = .ok (.putfield 27, 3) := by decide +kernel
theorem dX6_passesOn_83 : decode cX6_passesOn 83 = .ok (.return_, 1) := by decide +kernel
theorem dX7_reads_0 : decode cX7_reads 0 = .ok (.aload_n 0, 1) := by decide +kernel
theorem dX7_reads_1 : decode cX7_reads 1 = .ok (.invokevirtual 9, 3) := by decide +kernel
theorem dX7_reads_4 : decode cX7_reads 4 = .ok (.sipush 303, 3) := by decide +kernel
theorem dX7_reads_7 : decode cX7_reads 7 = .ok (.if_icmp .ne 5, 3) := by decide +kernel
theorem dX7_reads_10 : decode cX7_reads 10 = .ok (.iconst 1, 1) := by decide +kernel
theorem dX7_reads_11 : decode cX7_reads 11 = .ok (.ireturn, 1) := by decide +kernel
theorem dX7_reads_12 : decode cX7_reads 12 = .ok (.iconst 0, 1) := by decide +kernel
theorem dX7_reads_13 : decode cX7_reads 13 = .ok (.istore_n 2, 1) := by decide +kernel
theorem dX7_reads_14 : decode cX7_reads 14 = .ok (.iload_n 2, 1) := by decide +kernel
theorem dX7_reads_15 : decode cX7_reads 15 = .ok (.bipush 14, 2) := by decide +kernel
theorem dX7_reads_17 : decode cX7_reads 17 = .ok (.if_icmp .ge 42, 3) := by decide +kernel
theorem dX7_reads_20 : decode cX7_reads 20 = .ok (.aload_n 0, 1) := by decide +kernel
theorem dX7_reads_21 : decode cX7_reads 21 = .ok (.aload_n 1, 1) := by decide +kernel
theorem dX7_reads_22 : decode cX7_reads 22 = .ok (.invokestatic 15, 3) := by decide +kernel
theorem dX7_reads_25 : decode cX7_reads 25 = .ok (.ifCond .ne 5, 3) := by decide +kernel
theorem dX7_reads_28 : decode cX7_reads 28 = .ok (.iconst 0, 1) := by decide +kernel
theorem dX7_reads_29 : decode cX7_reads 29 = .ok (.ireturn, 1) := by decide +kernel
theorem dX7_reads_30 : decode cX7_reads 30 = .ok (.aload_n 0, 1) := by decide +kernel
theorem dX7_reads_31 : decode cX7_reads 31 = .ok (.invokevirtual 9, 3) := by decide +kernel
theorem dX7_reads_34 : decode cX7_reads 34 = .ok (.sipush 303, 3) := by decide +kernel
theorem dX7_reads_37 : decode cX7_reads 37 = .ok (.if_icmp .ne 5, 3) := by decide +kernel
theorem dX7_reads_40 : decode cX7_reads 40 = .ok (.iconst 1, 1) := by decide +kernel
theorem dX7_reads_41 : decode cX7_reads 41 = .ok (.ireturn, 1) := by decide +kernel
theorem dX7_reads_42 : decode cX7_reads 42 = .ok (.aload_n 0, 1) := by decide +kernel
theorem dX7_reads_43 : decode cX7_reads 43 = .ok (.bipush 59, 2) := by decide +kernel
theorem dX7_reads_45 : decode cX7_reads 45 = .ok (.invokevirtual 21, 3) := by decide +kernel
theorem dX7_reads_48 : decode cX7_reads 48 = .ok (.ifCond .ne 5, 3) := by decide +kernel
theorem dX7_reads_51 : decode cX7_reads 51 = .ok (.iconst 0, 1) := by decide +kernel
theorem dX7_reads_52 : decode cX7_reads 52 = .ok (.ireturn, 1) := by decide +kernel
theorem dX7_reads_53 : decode cX7_reads 53 = .ok (.iinc 2 1, 3) := by decide +kernel
theorem dX7_reads_56 : decode cX7_reads 56 = .ok (.goto (-42), 3) := by decide +kernel
theorem dX7_reads_59 : decode cX7_reads 59 = .ok (.iconst 0, 1) := by decide +kernel
theorem dX7_reads_60 : decode cX7_reads 60 = .ok (.ireturn, 1) := by decide +kernel
theorem dX7_readsLine_0 : decode cX7_readsLine 0 = .ok (.aload_n 1, 1) := by decide +kernel
theorem dX7_readsLine_1 : decode cX7_readsLine 1 = .ok (.getfield 25, 3) := by decide +kernel
theorem dX7_readsLine_4 : decode cX7_readsLine 4 = .ok (.bipush 8, 2) := by decide +kernel
theorem dX7_readsLine_6 : decode cX7_readsLine 6 = .ok (.if_icmp .ge 19, 3) := by decide +kernel
theorem dX7_readsLine_9 : decode cX7_readsLine 9 = .ok (.aload_n 0, 1) := by decide +kernel
theorem dX7_readsLine_10 : decode cX7_readsLine 10 = .ok (.sipush 256, 3) := by decide +kernel
theorem dX7_readsLine_13 : decode cX7_readsLine 13 = .ok (.invokevirtual 21, 3) := by decide +kernel
theorem dX7_readsLine_16 : decode cX7_readsLine 16 = .ok (.ifCond .eq 9, 3) := by decide +kernel
theorem dX7_readsLine_19 : decode cX7_readsLine 19 = .ok (.aload_n 0, 1) := by decide +kernel
theorem dX7_readsLine_20 : decode cX7_readsLine 20 = .ok (.aload_n 1, 1) := by decide +kernel
theorem dX7_readsLine_21 : decode cX7_readsLine 21 = .ok (.invokestatic 31, 3) := by decide +kernel
theorem dX7_readsLine_24 : decode cX7_readsLine 24 = .ok (.ireturn, 1) := by decide +kernel
theorem dX7_readsLine_25 : decode cX7_readsLine 25 = .ok (.aload_n 1, 1) := by decide +kernel
theorem dX7_readsLine_26 : decode cX7_readsLine 26 = .ok (.getfield 34, 3) := by decide +kernel
theorem dX7_readsLine_29 : decode cX7_readsLine 29 = .ok (.iconst 5, 1) := by decide +kernel
theorem dX7_readsLine_30 : decode cX7_readsLine 30 = .ok (.if_icmp .ge 19, 3) := by decide +kernel
theorem dX7_readsLine_33 : decode cX7_readsLine 33 = .ok (.aload_n 0, 1) := by decide +kernel
theorem dX7_readsLine_34 : decode cX7_readsLine 34 = .ok (.sipush 260, 3) := by decide +kernel
theorem dX7_readsLine_37 : decode cX7_readsLine 37 = .ok (.invokevirtual 21, 3) := by decide +kernel
theorem dX7_readsLine_40 : decode cX7_readsLine 40 = .ok (.ifCond .eq 9, 3) := by decide +kernel
theorem dX7_readsLine_43 : decode cX7_readsLine 43 = .ok (.aload_n 0, 1) := by decide +kernel
theorem dX7_readsLine_44 : decode cX7_readsLine 44 = .ok (.aload_n 1, 1) := by decide +kernel
theorem dX7_readsLine_45 : decode cX7_readsLine 45 = .ok (.invokestatic 37, 3) := by decide +kernel
theorem dX7_readsLine_48 : decode cX7_readsLine 48 = .ok (.ireturn, 1) := by decide +kernel
theorem dX7_readsLine_49 : decode cX7_readsLine 49 = .ok (.aload_n 0, 1) := by decide +kernel
theorem dX7_readsLine_50 : decode cX7_readsLine 50 = .ok (.sipush 264, 3) := by decide +kernel
theorem dX7_readsLine_53 : decode cX7_readsLine 53 = .ok (.invokevirtual 21, 3) := by decide +kernel
theorem dX7_readsLine_56 : decode cX7_readsLine 56 = .ok (.ifCond .eq 10, 3) := by decide +kernel
theorem dX7_readsLine_59 : decode cX7_readsLine 59 = .ok (.aload_n 0, 1) := by decide +kernel
theorem dX7_readsLine_60 : decode cX7_readsLine 60 = .ok (.aload_n 1, 1) := by decide +kernel
theorem dX7_readsLine_61 : decode cX7_readsLine 61 = .ok (.iconst 1, 1) := by decide +kernel
theorem dX7_readsLine_62 : decode cX7_readsLine 62 = .ok (.invokestatic 40, 3) := by decide +kernel
theorem dX7_readsLine_65 : decode cX7_readsLine 65 = .ok (.ireturn, 1) := by decide +kernel
theorem dX7_readsLine_66 : decode cX7_readsLine 66 = .ok (.aload_n 0, 1) := by decide +kernel
theorem dX7_readsLine_67 : decode cX7_readsLine 67 = .ok (.sipush 265, 3) := by decide +kernel
theorem dX7_readsLine_70 : decode cX7_readsLine 70 = .ok (.invokevirtual 21, 3) := by decide +kernel
theorem dX7_readsLine_73 : decode cX7_readsLine 73 = .ok (.ifCond .eq 10, 3) := by decide +kernel
theorem dX7_readsLine_76 : decode cX7_readsLine 76 = .ok (.aload_n 0, 1) := by decide +kernel
theorem dX7_readsLine_77 : decode cX7_readsLine 77 = .ok (.aload_n 1, 1) := by decide +kernel
theorem dX7_readsLine_78 : decode cX7_readsLine 78 = .ok (.iconst 0, 1) := by decide +kernel
theorem dX7_readsLine_79 : decode cX7_readsLine 79 = .ok (.invokestatic 40, 3) := by decide +kernel
theorem dX7_readsLine_82 : decode cX7_readsLine 82 = .ok (.ireturn, 1) := by decide +kernel
theorem dX7_readsLine_83 : decode cX7_readsLine 83 = .ok (.aload_n 0, 1) := by decide +kernel
theorem dX7_readsLine_84 : decode cX7_readsLine 84 = .ok (.sipush 266, 3) := by decide +kernel
theorem dX7_readsLine_87 : decode cX7_readsLine 87 = .ok (.invokevirtual 21, 3) := by decide +kernel
theorem dX7_readsLine_90 : decode cX7_readsLine 90 = .ok (.ifCond .eq 28, 3) := by decide +kernel
theorem dX7_readsLine_93 : decode cX7_readsLine 93 = .ok (.aload_n 1, 1) := by decide +kernel
theorem dX7_readsLine_94 : decode cX7_readsLine 94 = .ok (.aload_n 0, 1) := by decide +kernel
theorem dX7_readsLine_95 : decode cX7_readsLine 95 = .ok (.iconst 0, 1) := by decide +kernel
theorem dX7_readsLine_96 : decode cX7_readsLine 96 = .ok (.bipush 100, 2) := by decide +kernel
theorem dX7_readsLine_98 : decode cX7_readsLine 98 = .ok (.invokevirtual 44, 3) := by decide +kernel
theorem dX7_readsLine_101 : decode cX7_readsLine 101 = .ok (.putfield 48, 3) := by decide +kernel
theorem dX7_readsLine_104 : decode cX7_readsLine 104 = .ok (.aload_n 1, 1) := by decide +kernel
theorem dX7_readsLine_105 : decode cX7_readsLine 105 = .ok (.getfield 48, 3) := by decide +kernel
theorem dX7_readsLine_108 : decode cX7_readsLine 108 = .ok (.iconst (-1), 1) := by decide +kernel
theorem dX7_readsLine_109 : decode cX7_readsLine 109 = .ok (.if_icmp .eq 7, 3) := by decide +kernel
theorem dX7_readsLine_112 : decode cX7_readsLine 112 = .ok (.iconst 1, 1) := by decide +kernel
theorem dX7_readsLine_113 : decode cX7_readsLine 113 = .ok (.goto 4, 3) := by decide +kernel
theorem dX7_readsLine_116 : decode cX7_readsLine 116 = .ok (.iconst 0, 1) := by decide +kernel
theorem dX7_readsLine_117 : decode cX7_readsLine 117 = .ok (.ireturn, 1) := by decide +kernel
theorem dX7_readsLine_118 : decode cX7_readsLine 118 = .ok (.aload_n 0, 1) := by decide +kernel
theorem dX7_readsLine_119 : decode cX7_readsLine 119 = .ok (.sipush 267, 3) := by decide +kernel
theorem dX7_readsLine_122 : decode cX7_readsLine 122 = .ok (.invokevirtual 21, 3) := by decide +kernel
theorem dX7_readsLine_125 : decode cX7_readsLine 125 = .ok (.ifCond .eq 28, 3) := by decide +kernel
theorem dX7_readsLine_128 : decode cX7_readsLine 128 = .ok (.aload_n 1, 1) := by decide +kernel
theorem dX7_readsLine_129 : decode cX7_readsLine 129 = .ok (.aload_n 0, 1) := by decide +kernel
theorem dX7_readsLine_130 : decode cX7_readsLine 130 = .ok (.iconst 0, 1) := by decide +kernel
theorem dX7_readsLine_131 : decode cX7_readsLine 131 = .ok (.bipush 100, 2) := by decide +kernel
theorem dX7_readsLine_133 : decode cX7_readsLine 133 = .ok (.invokevirtual 44, 3) := by decide +kernel
theorem dX7_readsLine_136 : decode cX7_readsLine 136 = .ok (.putfield 51, 3) := by decide +kernel
theorem dX7_readsLine_139 : decode cX7_readsLine 139 = .ok (.aload_n 1, 1) := by decide +kernel
theorem dX7_readsLine_140 : decode cX7_readsLine 140 = .ok (.getfield 51, 3) := by decide +kernel
theorem dX7_readsLine_143 : decode cX7_readsLine 143 = .ok (.iconst (-1), 1) := by decide +kernel
theorem dX7_readsLine_144 : decode cX7_readsLine 144 = .ok (.if_icmp .eq 7, 3) := by decide +kernel
theorem dX7_readsLine_147 : decode cX7_readsLine 147 = .ok (.iconst 1, 1) := by decide +kernel
theorem dX7_readsLine_148 : decode cX7_readsLine 148 = .ok (.goto 4, 3) := by decide +kernel
theorem dX7_readsLine_151 : decode cX7_readsLine 151 = .ok (.iconst 0, 1) := by decide +kernel
theorem dX7_readsLine_152 : decode cX7_readsLine 152 = .ok (.ireturn, 1) := by decide +kernel
theorem dX7_readsLine_153 : decode cX7_readsLine 153 = .ok (.aload_n 0, 1) := by decide +kernel
theorem dX7_readsLine_154 : decode cX7_readsLine 154 = .ok (.sipush 268, 3) := by decide +kernel
theorem dX7_readsLine_157 : decode cX7_readsLine 157 = .ok (.invokevirtual 21, 3) := by decide +kernel
theorem dX7_readsLine_160 : decode cX7_readsLine 160 = .ok (.ifCond .eq 28, 3) := by decide +kernel
theorem dX7_readsLine_163 : decode cX7_readsLine 163 = .ok (.aload_n 1, 1) := by decide +kernel
theorem dX7_readsLine_164 : decode cX7_readsLine 164 = .ok (.aload_n 0, 1) := by decide +kernel
theorem dX7_readsLine_165 : decode cX7_readsLine 165 = .ok (.iconst 0, 1) := by decide +kernel
theorem dX7_readsLine_166 : decode cX7_readsLine 166 = .ok (.bipush 11, 2) := by decide +kernel
theorem dX7_readsLine_168 : decode cX7_readsLine 168 = .ok (.invokevirtual 44, 3) := by decide +kernel
theorem dX7_readsLine_171 : decode cX7_readsLine 171 = .ok (.putfield 54, 3) := by decide +kernel
theorem dX7_readsLine_174 : decode cX7_readsLine 174 = .ok (.aload_n 1, 1) := by decide +kernel
theorem dX7_readsLine_175 : decode cX7_readsLine 175 = .ok (.getfield 54, 3) := by decide +kernel
theorem dX7_readsLine_178 : decode cX7_readsLine 178 = .ok (.iconst (-1), 1) := by decide +kernel
theorem dX7_readsLine_179 : decode cX7_readsLine 179 = .ok (.if_icmp .eq 7, 3) := by decide +kernel
theorem dX7_readsLine_182 : decode cX7_readsLine 182 = .ok (.iconst 1, 1) := by decide +kernel
theorem dX7_readsLine_183 : decode cX7_readsLine 183 = .ok (.goto 4, 3) := by decide +kernel
theorem dX7_readsLine_186 : decode cX7_readsLine 186 = .ok (.iconst 0, 1) := by decide +kernel
theorem dX7_readsLine_187 : decode cX7_readsLine 187 = .ok (.ireturn, 1) := by decide +kernel
theorem dX7_readsLine_188 : decode cX7_readsLine 188 = .ok (.iconst 0, 1) := by decide +kernel
theorem dX7_readsLine_189 : decode cX7_readsLine 189 = .ok (.ireturn, 1) := by decide +kernel
theorem dX7_readsDiner_0 : decode cX7_readsDiner 0 = .ok (.aload_n 0, 1) := by decide +kernel
theorem dX7_readsDiner_1 : decode cX7_readsDiner 1 = .ok (.sipush 257, 3) := by decide +kernel
theorem dX7_readsDiner_4 : decode cX7_readsDiner 4 = .ok (.invokevirtual 21, 3) := by decide +kernel
theorem dX7_readsDiner_7 : decode cX7_readsDiner 7 = .ok (.ifCond .ne 5, 3) := by decide +kernel
theorem dX7_readsDiner_10 : decode cX7_readsDiner 10 = .ok (.iconst 0, 1) := by decide +kernel
theorem dX7_readsDiner_11 : decode cX7_readsDiner 11 = .ok (.ireturn, 1) := by decide +kernel
theorem dX7_readsDiner_12 : decode cX7_readsDiner 12 = .ok (.aload_n 0, 1) := by decide +kernel
theorem dX7_readsDiner_13 : decode cX7_readsDiner 13 = .ok (.iconst 0, 1) := by decide +kernel
theorem dX7_readsDiner_14 : decode cX7_readsDiner 14 = .ok (.bipush 9, 2) := by decide +kernel
theorem dX7_readsDiner_16 : decode cX7_readsDiner 16 = .ok (.invokevirtual 44, 3) := by decide +kernel
theorem dX7_readsDiner_19 : decode cX7_readsDiner 19 = .ok (.istore_n 2, 1) := by decide +kernel
theorem dX7_readsDiner_20 : decode cX7_readsDiner 20 = .ok (.iload_n 2, 1) := by decide +kernel
theorem dX7_readsDiner_21 : decode cX7_readsDiner 21 = .ok (.iconst (-1), 1) := by decide +kernel
theorem dX7_readsDiner_22 : decode cX7_readsDiner 22 = .ok (.if_icmp .eq 13, 3) := by decide +kernel
theorem dX7_readsDiner_25 : decode cX7_readsDiner 25 = .ok (.aload_n 0, 1) := by decide +kernel
theorem dX7_readsDiner_26 : decode cX7_readsDiner 26 = .ok (.sipush 258, 3) := by decide +kernel
theorem dX7_readsDiner_29 : decode cX7_readsDiner 29 = .ok (.invokevirtual 21, 3) := by decide +kernel
theorem dX7_readsDiner_32 : decode cX7_readsDiner 32 = .ok (.ifCond .ne 5, 3) := by decide +kernel
theorem dX7_readsDiner_35 : decode cX7_readsDiner 35 = .ok (.iconst 0, 1) := by decide +kernel
theorem dX7_readsDiner_36 : decode cX7_readsDiner 36 = .ok (.ireturn, 1) := by decide +kernel
theorem dX7_readsDiner_37 : decode cX7_readsDiner 37 = .ok (.aload_n 0, 1) := by decide +kernel
theorem dX7_readsDiner_38 : decode cX7_readsDiner 38 = .ok (.getfield 57, 3) := by decide +kernel
theorem dX7_readsDiner_41 : decode cX7_readsDiner 41 = .ok (.istore_n 3, 1) := by decide +kernel
theorem dX7_readsDiner_42 : decode cX7_readsDiner 42 = .ok (.aload_n 0, 1) := by decide +kernel
theorem dX7_readsDiner_43 : decode cX7_readsDiner 43 = .ok (.iconst 0, 1) := by decide +kernel
theorem dX7_readsDiner_44 : decode cX7_readsDiner 44 = .ok (.bipush 9, 2) := by decide +kernel
theorem dX7_readsDiner_46 : decode cX7_readsDiner 46 = .ok (.invokevirtual 44, 3) := by decide +kernel
theorem dX7_readsDiner_49 : decode cX7_readsDiner 49 = .ok (.istore 4, 2) := by decide +kernel
theorem dX7_readsDiner_51 : decode cX7_readsDiner 51 = .ok (.iload 4, 2) := by decide +kernel
theorem dX7_readsDiner_53 : decode cX7_readsDiner 53 = .ok (.iconst (-1), 1) := by decide +kernel
theorem dX7_readsDiner_54 : decode cX7_readsDiner 54 = .ok (.if_icmp .ne 5, 3) := by decide +kernel
theorem dX7_readsDiner_57 : decode cX7_readsDiner 57 = .ok (.iconst 0, 1) := by decide +kernel
theorem dX7_readsDiner_58 : decode cX7_readsDiner 58 = .ok (.ireturn, 1) := by decide +kernel
theorem dX7_readsDiner_59 : decode cX7_readsDiner 59 = .ok (.aload_n 1, 1) := by decide +kernel
theorem dX7_readsDiner_60 : decode cX7_readsDiner 60 = .ok (.iload 4, 2) := by decide +kernel
theorem dX7_readsDiner_62 : decode cX7_readsDiner 62 = .ok (.invokevirtual 60, 3) := by decide +kernel
theorem dX7_readsDiner_65 : decode cX7_readsDiner 65 = .ok (.iconst (-1), 1) := by decide +kernel
theorem dX7_readsDiner_66 : decode cX7_readsDiner 66 = .ok (.if_icmp .eq 10, 3) := by decide +kernel
theorem dX7_readsDiner_69 : decode cX7_readsDiner 69 = .ok (.aload_n 0, 1) := by decide +kernel
theorem dX7_readsDiner_70 : decode cX7_readsDiner 70 = .ok (.iload_n 3, 1) := by decide +kernel
theorem dX7_readsDiner_71 : decode cX7_readsDiner 71 = .ok (.putfield 57, 3) := by decide +kernel
theorem dX7_readsDiner_74 : decode cX7_readsDiner 74 = .ok (.iconst 0, 1) := by decide +kernel
theorem dX7_readsDiner_75 : decode cX7_readsDiner 75 = .ok (.ireturn, 1) := by decide +kernel
theorem dX7_readsDiner_76 : decode cX7_readsDiner 76 = .ok (.aload_n 1, 1) := by decide +kernel
theorem dX7_readsDiner_77 : decode cX7_readsDiner 77 = .ok (.iload 4, 2) := by decide +kernel
theorem dX7_readsDiner_79 : decode cX7_readsDiner 79 = .ok (.iload_n 2, 1) := by decide +kernel
theorem dX7_readsDiner_80 : decode cX7_readsDiner 80 = .ok (.aload_n 0, 1) := by decide +kernel
theorem dX7_readsDiner_81 : decode cX7_readsDiner 81 = .ok (.sipush 259, 3) := by decide +kernel
theorem dX7_readsDiner_84 : decode cX7_readsDiner 84 = .ok (.invokevirtual 21, 3) := by decide +kernel
theorem dX7_readsDiner_87 : decode cX7_readsDiner 87 = .ok (.invokevirtual 64, 3) := by decide +kernel
theorem dX7_readsDiner_90 : decode cX7_readsDiner 90 = .ok (.iconst 1, 1) := by decide +kernel
theorem dX7_readsDiner_91 : decode cX7_readsDiner 91 = .ok (.ireturn, 1) := by decide +kernel
theorem dX7_readsCellar_0 : decode cX7_readsCellar 0 = .ok (.aload_n 0, 1) := by decide +kernel
theorem dX7_readsCellar_1 : decode cX7_readsCellar 1 = .ok (.invokevirtual 68, 3) := by decide +kernel
theorem dX7_readsCellar_4 : decode cX7_readsCellar 4 = .ok (.istore_n 2, 1) := by decide +kernel
theorem dX7_readsCellar_5 : decode cX7_readsCellar 5 = .ok (.iload_n 2, 1) := by decide +kernel
theorem dX7_readsCellar_6 : decode cX7_readsCellar 6 = .ok (.iconst (-1), 1) := by decide +kernel
theorem dX7_readsCellar_7 : decode cX7_readsCellar 7 = .ok (.if_icmp .eq 13, 3) := by decide +kernel
theorem dX7_readsCellar_10 : decode cX7_readsCellar 10 = .ok (.aload_n 0, 1) := by decide +kernel
theorem dX7_readsCellar_11 : decode cX7_readsCellar 11 = .ok (.sipush 261, 3) := by decide +kernel
theorem dX7_readsCellar_14 : decode cX7_readsCellar 14 = .ok (.invokevirtual 21, 3) := by decide +kernel
theorem dX7_readsCellar_17 : decode cX7_readsCellar 17 = .ok (.ifCond .ne 5, 3) := by decide +kernel
theorem dX7_readsCellar_20 : decode cX7_readsCellar 20 = .ok (.iconst 0, 1) := by decide +kernel
theorem dX7_readsCellar_21 : decode cX7_readsCellar 21 = .ok (.ireturn, 1) := by decide +kernel
theorem dX7_readsCellar_22 : decode cX7_readsCellar 22 = .ok (.aload_n 0, 1) := by decide +kernel
theorem dX7_readsCellar_23 : decode cX7_readsCellar 23 = .ok (.iconst 1, 1) := by decide +kernel
theorem dX7_readsCellar_24 : decode cX7_readsCellar 24 = .ok (.sipush 200, 3) := by decide +kernel
theorem dX7_readsCellar_27 : decode cX7_readsCellar 27 = .ok (.invokevirtual 44, 3) := by decide +kernel
theorem dX7_readsCellar_30 : decode cX7_readsCellar 30 = .ok (.istore_n 3, 1) := by decide +kernel
theorem dX7_readsCellar_31 : decode cX7_readsCellar 31 = .ok (.iload_n 3, 1) := by decide +kernel
theorem dX7_readsCellar_32 : decode cX7_readsCellar 32 = .ok (.iconst (-1), 1) := by decide +kernel
theorem dX7_readsCellar_33 : decode cX7_readsCellar 33 = .ok (.if_icmp .eq 13, 3) := by decide +kernel
theorem dX7_readsCellar_36 : decode cX7_readsCellar 36 = .ok (.aload_n 0, 1) := by decide +kernel
theorem dX7_readsCellar_37 : decode cX7_readsCellar 37 = .ok (.sipush 258, 3) := by decide +kernel
theorem dX7_readsCellar_40 : decode cX7_readsCellar 40 = .ok (.invokevirtual 21, 3) := by decide +kernel
theorem dX7_readsCellar_43 : decode cX7_readsCellar 43 = .ok (.ifCond .ne 5, 3) := by decide +kernel
theorem dX7_readsCellar_46 : decode cX7_readsCellar 46 = .ok (.iconst 0, 1) := by decide +kernel
theorem dX7_readsCellar_47 : decode cX7_readsCellar 47 = .ok (.ireturn, 1) := by decide +kernel
theorem dX7_readsCellar_48 : decode cX7_readsCellar 48 = .ok (.aload_n 0, 1) := by decide +kernel
theorem dX7_readsCellar_49 : decode cX7_readsCellar 49 = .ok (.iconst 0, 1) := by decide +kernel
theorem dX7_readsCellar_50 : decode cX7_readsCellar 50 = .ok (.bipush 9, 2) := by decide +kernel
theorem dX7_readsCellar_52 : decode cX7_readsCellar 52 = .ok (.invokevirtual 44, 3) := by decide +kernel
theorem dX7_readsCellar_55 : decode cX7_readsCellar 55 = .ok (.istore 4, 2) := by decide +kernel
theorem dX7_readsCellar_57 : decode cX7_readsCellar 57 = .ok (.iload 4, 2) := by decide +kernel
theorem dX7_readsCellar_59 : decode cX7_readsCellar 59 = .ok (.iconst (-1), 1) := by decide +kernel
theorem dX7_readsCellar_60 : decode cX7_readsCellar 60 = .ok (.if_icmp .ne 5, 3) := by decide +kernel
theorem dX7_readsCellar_63 : decode cX7_readsCellar 63 = .ok (.iconst 0, 1) := by decide +kernel
theorem dX7_readsCellar_64 : decode cX7_readsCellar 64 = .ok (.ireturn, 1) := by decide +kernel
theorem dX7_readsCellar_65 : decode cX7_readsCellar 65 = .ok (.aload_n 0, 1) := by decide +kernel
theorem dX7_readsCellar_66 : decode cX7_readsCellar 66 = .ok (.sipush 262, 3) := by decide +kernel
theorem dX7_readsCellar_69 : decode cX7_readsCellar 69 = .ok (.invokevirtual 21, 3) := by decide +kernel
theorem dX7_readsCellar_72 : decode cX7_readsCellar 72 = .ok (.ifCond .eq 13, 3) := by decide +kernel
theorem dX7_readsCellar_75 : decode cX7_readsCellar 75 = .ok (.aload_n 0, 1) := by decide +kernel
theorem dX7_readsCellar_76 : decode cX7_readsCellar 76 = .ok (.iconst 0, 1) := by decide +kernel
theorem dX7_readsCellar_77 : decode cX7_readsCellar 77 = .ok (.bipush 9, 2) := by decide +kernel
theorem dX7_readsCellar_79 : decode cX7_readsCellar 79 = .ok (.invokevirtual 44, 3) := by decide +kernel
theorem dX7_readsCellar_82 : decode cX7_readsCellar 82 = .ok (.goto 4, 3) := by decide +kernel
theorem dX7_readsCellar_85 : decode cX7_readsCellar 85 = .ok (.iconst 0, 1) := by decide +kernel
theorem dX7_readsCellar_86 : decode cX7_readsCellar 86 = .ok (.istore 5, 2) := by decide +kernel
theorem dX7_readsCellar_88 : decode cX7_readsCellar 88 = .ok (.iload 5, 2) := by decide +kernel
theorem dX7_readsCellar_90 : decode cX7_readsCellar 90 = .ok (.iconst (-1), 1) := by decide +kernel
theorem dX7_readsCellar_91 : decode cX7_readsCellar 91 = .ok (.if_icmp .ne 5, 3) := by decide +kernel
theorem dX7_readsCellar_94 : decode cX7_readsCellar 94 = .ok (.iconst 0, 1) := by decide +kernel
theorem dX7_readsCellar_95 : decode cX7_readsCellar 95 = .ok (.ireturn, 1) := by decide +kernel
theorem dX7_readsCellar_96 : decode cX7_readsCellar 96 = .ok (.aload_n 0, 1) := by decide +kernel
theorem dX7_readsCellar_97 : decode cX7_readsCellar 97 = .ok (.sipush 263, 3) := by decide +kernel
theorem dX7_readsCellar_100 : decode cX7_readsCellar 100 = .ok (.invokevirtual 21, 3) := by decide +kernel
theorem dX7_readsCellar_103 : decode cX7_readsCellar 103 = .ok (.ifCond .eq 13, 3) := by decide +kernel
theorem dX7_readsCellar_106 : decode cX7_readsCellar 106 = .ok (.aload_n 0, 1) := by decide +kernel
theorem dX7_readsCellar_107 : decode cX7_readsCellar 107 = .ok (.iconst 1, 1) := by decide +kernel
theorem dX7_readsCellar_108 : decode cX7_readsCellar 108 = .ok (.bipush 9, 2) := by decide +kernel
theorem dX7_readsCellar_110 : decode cX7_readsCellar 110 = .ok (.invokevirtual 44, 3) := by decide +kernel
theorem dX7_readsCellar_113 : decode cX7_readsCellar 113 = .ok (.goto 4, 3) := by decide +kernel
theorem dX7_readsCellar_116 : decode cX7_readsCellar 116 = .ok (.iconst 1, 1) := by decide +kernel
theorem dX7_readsCellar_117 : decode cX7_readsCellar 117 = .ok (.istore 6, 2) := by decide +kernel
theorem dX7_readsCellar_119 : decode cX7_readsCellar 119 = .ok (.iload 6, 2) := by decide +kernel
theorem dX7_readsCellar_121 : decode cX7_readsCellar 121 = .ok (.iconst (-1), 1) := by decide +kernel
theorem dX7_readsCellar_122 : decode cX7_readsCellar 122 = .ok (.if_icmp .ne 5, 3) := by decide +kernel
theorem dX7_readsCellar_125 : decode cX7_readsCellar 125 = .ok (.iconst 0, 1) := by decide +kernel
theorem dX7_readsCellar_126 : decode cX7_readsCellar 126 = .ok (.ireturn, 1) := by decide +kernel
theorem dX7_readsCellar_127 : decode cX7_readsCellar 127 = .ok (.aload_n 1, 1) := by decide +kernel
theorem dX7_readsCellar_128 : decode cX7_readsCellar 128 = .ok (.iload 4, 2) := by decide +kernel
theorem dX7_readsCellar_130 : decode cX7_readsCellar 130 = .ok (.iload_n 2, 1) := by decide +kernel
theorem dX7_readsCellar_131 : decode cX7_readsCellar 131 = .ok (.iload_n 3, 1) := by decide +kernel
theorem dX7_readsCellar_132 : decode cX7_readsCellar 132 = .ok (.iload 5, 2) := by decide +kernel
theorem dX7_readsCellar_134 : decode cX7_readsCellar 134 = .ok (.iload 6, 2) := by decide +kernel
theorem dX7_readsCellar_136 : decode cX7_readsCellar 136 = .ok (.invokevirtual 71, 3) := by decide +kernel
theorem dX7_readsCellar_139 : decode cX7_readsCellar 139 = .ok (.iconst 1, 1) := by decide +kernel
theorem dX7_readsCellar_140 : decode cX7_readsCellar 140 = .ok (.ireturn, 1) := by decide +kernel
theorem dX7_readsServed_0 : decode cX7_readsServed 0 = .ok (.aload_n 0, 1) := by decide +kernel
theorem dX7_readsServed_1 : decode cX7_readsServed 1 = .ok (.iconst 0, 1) := by decide +kernel
theorem dX7_readsServed_2 : decode cX7_readsServed 2 = .ok (.bipush 11, 2) := by decide +kernel
theorem dX7_readsServed_4 : decode cX7_readsServed 4 = .ok (.invokevirtual 44, 3) := by decide +kernel
theorem dX7_readsServed_7 : decode cX7_readsServed 7 = .ok (.istore_n 3, 1) := by decide +kernel
theorem dX7_readsServed_8 : decode cX7_readsServed 8 = .ok (.iload_n 3, 1) := by decide +kernel
theorem dX7_readsServed_9 : decode cX7_readsServed 9 = .ok (.iconst (-1), 1) := by decide +kernel
theorem dX7_readsServed_10 : decode cX7_readsServed 10 = .ok (.if_icmp .ne 5, 3) := by decide +kernel
theorem dX7_readsServed_13 : decode cX7_readsServed 13 = .ok (.iconst 0, 1) := by decide +kernel
theorem dX7_readsServed_14 : decode cX7_readsServed 14 = .ok (.ireturn, 1) := by decide +kernel
theorem dX7_readsServed_15 : decode cX7_readsServed 15 = .ok (.aload_n 1, 1) := by decide +kernel
theorem dX7_readsServed_16 : decode cX7_readsServed 16 = .ok (.iload_n 3, 1) := by decide +kernel
theorem dX7_readsServed_17 : decode cX7_readsServed 17 = .ok (.iload_n 2, 1) := by decide +kernel
theorem dX7_readsServed_18 : decode cX7_readsServed 18 = .ok (.invokevirtual 75, 3) := by decide +kernel
theorem dX7_readsServed_21 : decode cX7_readsServed 21 = .ok (.iconst 1, 1) := by decide +kernel
theorem dX7_readsServed_22 : decode cX7_readsServed 22 = .ok (.ireturn, 1) := by decide +kernel
theorem dX8_init_0 : decode cX8_init 0 = .ok (.aload_n 0, 1) := by decide +kernel
theorem dX8_init_1 : decode cX8_init 1 = .ok (.invokespecial 3, 3) := by decide +kernel
theorem dX8_init_4 : decode cX8_init 4 = .ok (.aload_n 0, 1) := by decide +kernel
theorem dX8_init_5 : decode cX8_init 5 = .ok (.sipush 400, 3) := by decide +kernel
theorem dX8_init_8 : decode cX8_init 8 = .ok (.newarray .int, 2) := by decide +kernel
theorem dX8_init_10 : decode cX8_init 10 = .ok (.putfield 9, 3) := by decide +kernel
theorem dX8_init_13 : decode cX8_init 13 = .ok (.aload_n 0, 1) := by decide +kernel
theorem dX8_init_14 : decode cX8_init 14 = .ok (.iconst 0, 1) := by decide +kernel
theorem dX8_init_15 : decode cX8_init 15 = .ok (.putfield 15, 3) := by decide +kernel
theorem dX8_init_18 : decode cX8_init 18 = .ok (.return_, 1) := by decide +kernel
theorem dX8_adds_0 : decode cX8_adds 0 = .ok (.bipush 24, 2) := by decide +kernel
theorem dX8_adds_2 : decode cX8_adds 2 = .ok (.istore_n 2, 1) := by decide +kernel
theorem dX8_adds_3 : decode cX8_adds 3 = .ok (.iload_n 2, 1) := by decide +kernel
theorem dX8_adds_4 : decode cX8_adds 4 = .ok (.ifCond .lt 45, 3) := by decide +kernel
theorem dX8_adds_7 : decode cX8_adds 7 = .ok (.aload_n 0, 1) := by decide +kernel
theorem dX8_adds_8 : decode cX8_adds 8 = .ok (.getfield 15, 3) := by decide +kernel
theorem dX8_adds_11 : decode cX8_adds 11 = .ok (.sipush 400, 3) := by decide +kernel
theorem dX8_adds_14 : decode cX8_adds 14 = .ok (.if_icmp .ge 35, 3) := by decide +kernel
theorem dX8_adds_17 : decode cX8_adds 17 = .ok (.aload_n 0, 1) := by decide +kernel
theorem dX8_adds_18 : decode cX8_adds 18 = .ok (.getfield 9, 3) := by decide +kernel
theorem dX8_adds_21 : decode cX8_adds 21 = .ok (.aload_n 0, 1) := by decide +kernel
theorem dX8_adds_22 : decode cX8_adds 22 = .ok (.getfield 15, 3) := by decide +kernel
theorem dX8_adds_25 : decode cX8_adds 25 = .ok (.iload_n 1, 1) := by decide +kernel
theorem dX8_adds_26 : decode cX8_adds 26 = .ok (.iload_n 2, 1) := by decide +kernel
theorem dX8_adds_27 : decode cX8_adds 27 = .ok (.iushr, 1) := by decide +kernel
theorem dX8_adds_28 : decode cX8_adds 28 = .ok (.sipush 255, 3) := by decide +kernel
theorem dX8_adds_31 : decode cX8_adds 31 = .ok (.iand, 1) := by decide +kernel
theorem dX8_adds_32 : decode cX8_adds 32 = .ok (.iastore, 1) := by decide +kernel
theorem dX8_adds_33 : decode cX8_adds 33 = .ok (.aload_n 0, 1) := by decide +kernel
theorem dX8_adds_34 : decode cX8_adds 34 = .ok (.dup, 1) := by decide +kernel
theorem dX8_adds_35 : decode cX8_adds 35 = .ok (.getfield 15, 3) := by decide +kernel
theorem dX8_adds_38 : decode cX8_adds 38 = .ok (.iconst 1, 1) := by decide +kernel
theorem dX8_adds_39 : decode cX8_adds 39 = .ok (.iadd, 1) := by decide +kernel
theorem dX8_adds_40 : decode cX8_adds 40 = .ok (.putfield 15, 3) := by decide +kernel
theorem dX8_adds_43 : decode cX8_adds 43 = .ok (.iinc 2 (-8), 3) := by decide +kernel
theorem dX8_adds_46 : decode cX8_adds 46 = .ok (.goto (-43), 3) := by decide +kernel
theorem dX8_adds_49 : decode cX8_adds 49 = .ok (.return_, 1) := by decide +kernel
theorem dX8_byteAt_0 : decode cX8_byteAt 0 = .ok (.iload_n 1, 1) := by decide +kernel
theorem dX8_byteAt_1 : decode cX8_byteAt 1 = .ok (.ifCond .lt 20, 3) := by decide +kernel
theorem dX8_byteAt_4 : decode cX8_byteAt 4 = .ok (.iload_n 1, 1) := by decide +kernel
theorem dX8_byteAt_5 : decode cX8_byteAt 5 = .ok (.aload_n 0, 1) := by decide +kernel
theorem dX8_byteAt_6 : decode cX8_byteAt 6 = .ok (.getfield 15, 3) := by decide +kernel
theorem dX8_byteAt_9 : decode cX8_byteAt 9 = .ok (.if_icmp .ge 12, 3) := by decide +kernel
theorem dX8_byteAt_12 : decode cX8_byteAt 12 = .ok (.aload_n 0, 1) := by decide +kernel
theorem dX8_byteAt_13 : decode cX8_byteAt 13 = .ok (.getfield 9, 3) := by decide +kernel
theorem dX8_byteAt_16 : decode cX8_byteAt 16 = .ok (.iload_n 1, 1) := by decide +kernel
theorem dX8_byteAt_17 : decode cX8_byteAt 17 = .ok (.iaload, 1) := by decide +kernel
theorem dX8_byteAt_18 : decode cX8_byteAt 18 = .ok (.goto 4, 3) := by decide +kernel
theorem dX8_byteAt_21 : decode cX8_byteAt 21 = .ok (.iconst (-1), 1) := by decide +kernel
theorem dX8_byteAt_22 : decode cX8_byteAt 22 = .ok (.ireturn, 1) := by decide +kernel
theorem dX9_init_0 : decode cX9_init 0 = .ok (.aload_n 0, 1) := by decide +kernel
theorem dX9_init_1 : decode cX9_init 1 = .ok (.invokespecial 3, 3) := by decide +kernel
theorem dX9_init_4 : decode cX9_init 4 = .ok (.aload_n 0, 1) := by decide +kernel
theorem dX9_init_5 : decode cX9_init 5 = .ok (.sipush 401, 3) := by decide +kernel
theorem dX9_init_8 : decode cX9_init 8 = .ok (.newarray .int, 2) := by decide +kernel
theorem dX9_init_10 : decode cX9_init 10 = .ok (.putfield 9, 3) := by decide +kernel
theorem dX9_init_13 : decode cX9_init 13 = .ok (.aload_n 0, 1) := by decide +kernel
theorem dX9_init_14 : decode cX9_init 14 = .ok (.sipush 401, 3) := by decide +kernel
theorem dX9_init_17 : decode cX9_init 17 = .ok (.newarray .int, 2) := by decide +kernel
theorem dX9_init_19 : decode cX9_init 19 = .ok (.putfield 15, 3) := by decide +kernel
theorem dX9_init_22 : decode cX9_init 22 = .ok (.aload_n 0, 1) := by decide +kernel
theorem dX9_init_23 : decode cX9_init 23 = .ok (.sipush 401, 3) := by decide +kernel
theorem dX9_init_26 : decode cX9_init 26 = .ok (.newarray .int, 2) := by decide +kernel
theorem dX9_init_28 : decode cX9_init 28 = .ok (.putfield 18, 3) := by decide +kernel
theorem dX9_init_31 : decode cX9_init 31 = .ok (.aload_n 0, 1) := by decide +kernel
theorem dX9_init_32 : decode cX9_init 32 = .ok (.iconst 0, 1) := by decide +kernel
theorem dX9_init_33 : decode cX9_init 33 = .ok (.putfield 21, 3) := by decide +kernel
theorem dX9_init_36 : decode cX9_init 36 = .ok (.aload_n 0, 1) := by decide +kernel
theorem dX9_init_37 : decode cX9_init 37 = .ok (.iconst 0, 1) := by decide +kernel
theorem dX9_init_38 : decode cX9_init 38 = .ok (.putfield 25, 3) := by decide +kernel
theorem dX9_init_41 : decode cX9_init 41 = .ok (.return_, 1) := by decide +kernel
theorem dX9_cuts_0 : decode cX9_cuts 0 = .ok (.aload_n 0, 1) := by decide +kernel
theorem dX9_cuts_1 : decode cX9_cuts 1 = .ok (.iconst 0, 1) := by decide +kernel
theorem dX9_cuts_2 : decode cX9_cuts 2 = .ok (.putfield 21, 3) := by decide +kernel
theorem dX9_cuts_5 : decode cX9_cuts 5 = .ok (.aload_n 0, 1) := by decide +kernel
theorem dX9_cuts_6 : decode cX9_cuts 6 = .ok (.iconst 0, 1) := by decide +kernel
theorem dX9_cuts_7 : decode cX9_cuts 7 = .ok (.putfield 25, 3) := by decide +kernel
theorem dX9_cuts_10 : decode cX9_cuts 10 = .ok (.iconst 0, 1) := by decide +kernel
theorem dX9_cuts_11 : decode cX9_cuts 11 = .ok (.istore_n 2, 1) := by decide +kernel
theorem dX9_cuts_12 : decode cX9_cuts 12 = .ok (.iconst 0, 1) := by decide +kernel
theorem dX9_cuts_13 : decode cX9_cuts 13 = .ok (.istore_n 3, 1) := by decide +kernel
theorem dX9_cuts_14 : decode cX9_cuts 14 = .ok (.iload_n 3, 1) := by decide +kernel
theorem dX9_cuts_15 : decode cX9_cuts 15 = .ok (.sipush 400, 3) := by decide +kernel
theorem dX9_cuts_18 : decode cX9_cuts 18 = .ok (.if_icmp .ge 24, 3) := by decide +kernel
theorem dX9_cuts_21 : decode cX9_cuts 21 = .ok (.iload_n 2, 1) := by decide +kernel
theorem dX9_cuts_22 : decode cX9_cuts 22 = .ok (.aload_n 1, 1) := by decide +kernel
theorem dX9_cuts_23 : decode cX9_cuts 23 = .ok (.getfield 28, 3) := by decide +kernel
theorem dX9_cuts_26 : decode cX9_cuts 26 = .ok (.if_icmp .ge 16, 3) := by decide +kernel
theorem dX9_cuts_29 : decode cX9_cuts 29 = .ok (.aload_n 0, 1) := by decide +kernel
theorem dX9_cuts_30 : decode cX9_cuts 30 = .ok (.aload_n 1, 1) := by decide +kernel
theorem dX9_cuts_31 : decode cX9_cuts 31 = .ok (.iload_n 2, 1) := by decide +kernel
theorem dX9_cuts_32 : decode cX9_cuts 32 = .ok (.invokevirtual 33, 3) := by decide +kernel
theorem dX9_cuts_35 : decode cX9_cuts 35 = .ok (.istore_n 2, 1) := by decide +kernel
theorem dX9_cuts_36 : decode cX9_cuts 36 = .ok (.iinc 3 1, 3) := by decide +kernel
theorem dX9_cuts_39 : decode cX9_cuts 39 = .ok (.goto (-25), 3) := by decide +kernel
theorem dX9_cuts_42 : decode cX9_cuts 42 = .ok (.aload_n 0, 1) := by decide +kernel
theorem dX9_cuts_43 : decode cX9_cuts 43 = .ok (.sipush 303, 3) := by decide +kernel
theorem dX9_cuts_46 : decode cX9_cuts 46 = .ok (.aload_n 1, 1) := by decide +kernel
theorem dX9_cuts_47 : decode cX9_cuts 47 = .ok (.getfield 28, 3) := by decide +kernel
theorem dX9_cuts_50 : decode cX9_cuts 50 = .ok (.iconst 0, 1) := by decide +kernel
theorem dX9_cuts_51 : decode cX9_cuts 51 = .ok (.invokevirtual 37, 3) := by decide +kernel
theorem dX9_cuts_54 : decode cX9_cuts 54 = .ok (.return_, 1) := by decide +kernel
theorem dX9_cutsOne_0 : decode cX9_cutsOne 0 = .ok (.aload_n 1, 1) := by decide +kernel
theorem dX9_cutsOne_1 : decode cX9_cutsOne 1 = .ok (.iload_n 2, 1) := by decide +kernel
theorem dX9_cutsOne_2 : decode cX9_cutsOne 2 = .ok (.invokevirtual 41, 3) := by decide +kernel
theorem dX9_cutsOne_5 : decode cX9_cutsOne 5 = .ok (.istore_n 3, 1) := by decide +kernel
theorem dX9_cutsOne_6 : decode cX9_cutsOne 6 = .ok (.iload_n 3, 1) := by decide +kernel
theorem dX9_cutsOne_7 : decode cX9_cutsOne 7 = .ok (.bipush 97, 2) := by decide +kernel
theorem dX9_cutsOne_9 : decode cX9_cutsOne 9 = .ok (.if_icmp .lt 16, 3) := by decide +kernel
theorem dX9_cutsOne_12 : decode cX9_cutsOne 12 = .ok (.iload_n 3, 1) := by decide +kernel
theorem dX9_cutsOne_13 : decode cX9_cutsOne 13 = .ok (.bipush 122, 2) := by decide +kernel
theorem dX9_cutsOne_15 : decode cX9_cutsOne 15 = .ok (.if_icmp .gt 10, 3) := by decide +kernel
theorem dX9_cutsOne_18 : decode cX9_cutsOne 18 = .ok (.aload_n 0, 1) := by decide +kernel
theorem dX9_cutsOne_19 : decode cX9_cutsOne 19 = .ok (.aload_n 1, 1) := by decide +kernel
theorem dX9_cutsOne_20 : decode cX9_cutsOne 20 = .ok (.iload_n 2, 1) := by decide +kernel
theorem dX9_cutsOne_21 : decode cX9_cutsOne 21 = .ok (.invokevirtual 45, 3) := by decide +kernel
theorem dX9_cutsOne_24 : decode cX9_cutsOne 24 = .ok (.ireturn, 1) := by decide +kernel
theorem dX9_cutsOne_25 : decode cX9_cutsOne 25 = .ok (.iload_n 3, 1) := by decide +kernel
theorem dX9_cutsOne_26 : decode cX9_cutsOne 26 = .ok (.bipush 48, 2) := by decide +kernel
theorem dX9_cutsOne_28 : decode cX9_cutsOne 28 = .ok (.if_icmp .lt 16, 3) := by decide +kernel
theorem dX9_cutsOne_31 : decode cX9_cutsOne 31 = .ok (.iload_n 3, 1) := by decide +kernel
theorem dX9_cutsOne_32 : decode cX9_cutsOne 32 = .ok (.bipush 57, 2) := by decide +kernel
theorem dX9_cutsOne_34 : decode cX9_cutsOne 34 = .ok (.if_icmp .gt 10, 3) := by decide +kernel
theorem dX9_cutsOne_37 : decode cX9_cutsOne 37 = .ok (.aload_n 0, 1) := by decide +kernel
theorem dX9_cutsOne_38 : decode cX9_cutsOne 38 = .ok (.aload_n 1, 1) := by decide +kernel
theorem dX9_cutsOne_39 : decode cX9_cutsOne 39 = .ok (.iload_n 2, 1) := by decide +kernel
theorem dX9_cutsOne_40 : decode cX9_cutsOne 40 = .ok (.invokevirtual 48, 3) := by decide +kernel
theorem dX9_cutsOne_43 : decode cX9_cutsOne 43 = .ok (.ireturn, 1) := by decide +kernel
theorem dX9_cutsOne_44 : decode cX9_cutsOne 44 = .ok (.iload_n 3, 1) := by decide +kernel
theorem dX9_cutsOne_45 : decode cX9_cutsOne 45 = .ok (.bipush 32, 2) := by decide +kernel
theorem dX9_cutsOne_47 : decode cX9_cutsOne 47 = .ok (.if_icmp .eq 10, 3) := by decide +kernel
theorem dX9_cutsOne_50 : decode cX9_cutsOne 50 = .ok (.aload_n 0, 1) := by decide +kernel
theorem dX9_cutsOne_51 : decode cX9_cutsOne 51 = .ok (.iload_n 3, 1) := by decide +kernel
theorem dX9_cutsOne_52 : decode cX9_cutsOne 52 = .ok (.iload_n 2, 1) := by decide +kernel
theorem dX9_cutsOne_53 : decode cX9_cutsOne 53 = .ok (.iconst 0, 1) := by decide +kernel
theorem dX9_cutsOne_54 : decode cX9_cutsOne 54 = .ok (.invokevirtual 37, 3) := by decide +kernel
theorem dX9_cutsOne_57 : decode cX9_cutsOne 57 = .ok (.iload_n 2, 1) := by decide +kernel
theorem dX9_cutsOne_58 : decode cX9_cutsOne 58 = .ok (.iconst 1, 1) := by decide +kernel
theorem dX9_cutsOne_59 : decode cX9_cutsOne 59 = .ok (.iadd, 1) := by decide +kernel
theorem dX9_cutsOne_60 : decode cX9_cutsOne 60 = .ok (.ireturn, 1) := by decide +kernel
theorem dX9_cutsWord_0 : decode cX9_cutsWord 0 = .ok (.iload_n 2, 1) := by decide +kernel
theorem dX9_cutsWord_1 : decode cX9_cutsWord 1 = .ok (.istore_n 3, 1) := by decide +kernel
theorem dX9_cutsWord_2 : decode cX9_cutsWord 2 = .ok (.iload_n 3, 1) := by decide +kernel
theorem dX9_cutsWord_3 : decode cX9_cutsWord 3 = .ok (.aload_n 1, 1) := by decide +kernel
theorem dX9_cutsWord_4 : decode cX9_cutsWord 4 = .ok (.getfield 28, 3) := by decide +kernel
theorem dX9_cutsWord_7 : decode cX9_cutsWord 7 = .ok (.if_icmp .ge 29, 3) := by decide +kernel
theorem dX9_cutsWord_10 : decode cX9_cutsWord 10 = .ok (.aload_n 1, 1) := by decide +kernel
theorem dX9_cutsWord_11 : decode cX9_cutsWord 11 = .ok (.iload_n 3, 1) := by decide +kernel
theorem dX9_cutsWord_12 : decode cX9_cutsWord 12 = .ok (.invokevirtual 41, 3) := by decide +kernel
theorem dX9_cutsWord_15 : decode cX9_cutsWord 15 = .ok (.bipush 97, 2) := by decide +kernel
theorem dX9_cutsWord_17 : decode cX9_cutsWord 17 = .ok (.if_icmp .lt 19, 3) := by decide +kernel
theorem dX9_cutsWord_20 : decode cX9_cutsWord 20 = .ok (.aload_n 1, 1) := by decide +kernel
theorem dX9_cutsWord_21 : decode cX9_cutsWord 21 = .ok (.iload_n 3, 1) := by decide +kernel
theorem dX9_cutsWord_22 : decode cX9_cutsWord 22 = .ok (.invokevirtual 41, 3) := by decide +kernel
theorem dX9_cutsWord_25 : decode cX9_cutsWord 25 = .ok (.bipush 122, 2) := by decide +kernel
theorem dX9_cutsWord_27 : decode cX9_cutsWord 27 = .ok (.if_icmp .gt 9, 3) := by decide +kernel
theorem dX9_cutsWord_30 : decode cX9_cutsWord 30 = .ok (.iinc 3 1, 3) := by decide +kernel
theorem dX9_cutsWord_33 : decode cX9_cutsWord 33 = .ok (.goto (-31), 3) := by decide +kernel
theorem dX9_cutsWord_36 : decode cX9_cutsWord 36 = .ok (.aload_n 1, 1) := by decide +kernel
theorem dX9_cutsWord_37 : decode cX9_cutsWord 37 = .ok (.iload_n 2, 1) := by decide +kernel
theorem dX9_cutsWord_38 : decode cX9_cutsWord 38 = .ok (.invokevirtual 41, 3) := by decide +kernel
theorem dX9_cutsWord_41 : decode cX9_cutsWord 41 = .ok (.bipush 97, 2) := by decide +kernel
theorem dX9_cutsWord_43 : decode cX9_cutsWord 43 = .ok (.isub, 1) := by decide +kernel
theorem dX9_cutsWord_44 : decode cX9_cutsWord 44 = .ok (.istore 4, 2) := by decide +kernel
theorem dX9_cutsWord_46 : decode cX9_cutsWord 46 = .ok (.iload_n 3, 1) := by decide +kernel
theorem dX9_cutsWord_47 : decode cX9_cutsWord 47 = .ok (.iload_n 2, 1) := by decide +kernel
theorem dX9_cutsWord_48 : decode cX9_cutsWord 48 = .ok (.iconst 1, 1) := by decide +kernel
theorem dX9_cutsWord_49 : decode cX9_cutsWord 49 = .ok (.iadd, 1) := by decide +kernel
theorem dX9_cutsWord_50 : decode cX9_cutsWord 50 = .ok (.if_icmp .ne 23, 3) := by decide +kernel
theorem dX9_cutsWord_53 : decode cX9_cutsWord 53 = .ok (.iload 4, 2) := by decide +kernel
theorem dX9_cutsWord_55 : decode cX9_cutsWord 55 = .ok (.bipush 6, 2) := by decide +kernel
theorem dX9_cutsWord_57 : decode cX9_cutsWord 57 = .ok (.if_icmp .ge 16, 3) := by decide +kernel
theorem dX9_cutsWord_60 : decode cX9_cutsWord 60 = .ok (.aload_n 0, 1) := by decide +kernel
theorem dX9_cutsWord_61 : decode cX9_cutsWord 61 = .ok (.sipush 300, 3) := by decide +kernel
theorem dX9_cutsWord_64 : decode cX9_cutsWord 64 = .ok (.iload_n 2, 1) := by decide +kernel
theorem dX9_cutsWord_65 : decode cX9_cutsWord 65 = .ok (.iload 4, 2) := by decide +kernel
theorem dX9_cutsWord_67 : decode cX9_cutsWord 67 = .ok (.invokevirtual 37, 3) := by decide +kernel
theorem dX9_cutsWord_70 : decode cX9_cutsWord 70 = .ok (.goto 16, 3) := by decide +kernel
theorem dX9_cutsWord_73 : decode cX9_cutsWord 73 = .ok (.aload_n 0, 1) := by decide +kernel
theorem dX9_cutsWord_74 : decode cX9_cutsWord 74 = .ok (.aload_n 0, 1) := by decide +kernel
theorem dX9_cutsWord_75 : decode cX9_cutsWord 75 = .ok (.aload_n 1, 1) := by decide +kernel
theorem dX9_cutsWord_76 : decode cX9_cutsWord 76 = .ok (.iload_n 2, 1) := by decide +kernel
theorem dX9_cutsWord_77 : decode cX9_cutsWord 77 = .ok (.iload_n 3, 1) := by decide +kernel
theorem dX9_cutsWord_78 : decode cX9_cutsWord 78 = .ok (.invokevirtual 51, 3) := by decide +kernel
theorem dX9_cutsWord_81 : decode cX9_cutsWord 81 = .ok (.iload_n 2, 1) := by decide +kernel
theorem dX9_cutsWord_82 : decode cX9_cutsWord 82 = .ok (.iconst 0, 1) := by decide +kernel
theorem dX9_cutsWord_83 : decode cX9_cutsWord 83 = .ok (.invokevirtual 37, 3) := by decide +kernel
theorem dX9_cutsWord_86 : decode cX9_cutsWord 86 = .ok (.iload_n 3, 1) := by decide +kernel
theorem dX9_cutsWord_87 : decode cX9_cutsWord 87 = .ok (.ireturn, 1) := by decide +kernel
theorem dX9_wordOf_0 : decode cX9_wordOf 0 = .ok (.sipush 256, 3) := by decide +kernel
theorem dX9_wordOf_3 : decode cX9_wordOf 3 = .ok (.istore 4, 2) := by decide +kernel
theorem dX9_wordOf_5 : decode cX9_wordOf 5 = .ok (.iload_n 2, 1) := by decide +kernel
theorem dX9_wordOf_6 : decode cX9_wordOf 6 = .ok (.istore 5, 2) := by decide +kernel
theorem dX9_wordOf_8 : decode cX9_wordOf 8 = .ok (.iconst 0, 1) := by decide +kernel
theorem dX9_wordOf_9 : decode cX9_wordOf 9 = .ok (.istore 6, 2) := by decide +kernel
theorem dX9_wordOf_11 : decode cX9_wordOf 11 = .ok (.iload 6, 2) := by decide +kernel
theorem dX9_wordOf_13 : decode cX9_wordOf 13 = .ok (.ldc 55, 2) := by decide +kernel
theorem dX9_wordOf_15 : decode cX9_wordOf 15 = .ok (.invokevirtual 57, 3) := by decide +kernel
theorem dX9_wordOf_18 : decode cX9_wordOf 18 = .ok (.if_icmp .ge 72, 3) := by decide +kernel
theorem dX9_wordOf_21 : decode cX9_wordOf 21 = .ok (.ldc 55, 2) := by decide +kernel
theorem dX9_wordOf_23 : decode cX9_wordOf 23 = .ok (.iload 6, 2) := by decide +kernel
theorem dX9_wordOf_25 : decode cX9_wordOf 25 = .ok (.invokevirtual 62, 3) := by decide +kernel
theorem dX9_wordOf_28 : decode cX9_wordOf 28 = .ok (.istore 7, 2) := by decide +kernel
theorem dX9_wordOf_30 : decode cX9_wordOf 30 = .ok (.iload 7, 2) := by decide +kernel
theorem dX9_wordOf_32 : decode cX9_wordOf 32 = .ok (.bipush 32, 2) := by decide +kernel
theorem dX9_wordOf_34 : decode cX9_wordOf 34 = .ok (.if_icmp .ne 21, 3) := by decide +kernel
theorem dX9_wordOf_37 : decode cX9_wordOf 37 = .ok (.iload 5, 2) := by decide +kernel
theorem dX9_wordOf_39 : decode cX9_wordOf 39 = .ok (.iload_n 3, 1) := by decide +kernel
theorem dX9_wordOf_40 : decode cX9_wordOf 40 = .ok (.if_icmp .ne 6, 3) := by decide +kernel
theorem dX9_wordOf_43 : decode cX9_wordOf 43 = .ok (.iload 4, 2) := by decide +kernel
theorem dX9_wordOf_45 : decode cX9_wordOf 45 = .ok (.ireturn, 1) := by decide +kernel
theorem dX9_wordOf_46 : decode cX9_wordOf 46 = .ok (.iinc 4 1, 3) := by decide +kernel
theorem dX9_wordOf_49 : decode cX9_wordOf 49 = .ok (.iload_n 2, 1) := by decide +kernel
theorem dX9_wordOf_50 : decode cX9_wordOf 50 = .ok (.istore 5, 2) := by decide +kernel
theorem dX9_wordOf_52 : decode cX9_wordOf 52 = .ok (.goto 32, 3) := by decide +kernel
theorem dX9_wordOf_55 : decode cX9_wordOf 55 = .ok (.iload 5, 2) := by decide +kernel
theorem dX9_wordOf_57 : decode cX9_wordOf 57 = .ok (.iload_n 3, 1) := by decide +kernel
theorem dX9_wordOf_58 : decode cX9_wordOf 58 = .ok (.if_icmp .ge 21, 3) := by decide +kernel
theorem dX9_wordOf_61 : decode cX9_wordOf 61 = .ok (.aload_n 1, 1) := by decide +kernel
theorem dX9_wordOf_62 : decode cX9_wordOf 62 = .ok (.iload 5, 2) := by decide +kernel
theorem dX9_wordOf_64 : decode cX9_wordOf 64 = .ok (.invokevirtual 41, 3) := by decide +kernel
theorem dX9_wordOf_67 : decode cX9_wordOf 67 = .ok (.iload 7, 2) := by decide +kernel
theorem dX9_wordOf_69 : decode cX9_wordOf 69 = .ok (.if_icmp .ne 10, 3) := by decide +kernel
theorem dX9_wordOf_72 : decode cX9_wordOf 72 = .ok (.iload 5, 2) := by decide +kernel
theorem dX9_wordOf_74 : decode cX9_wordOf 74 = .ok (.iconst 1, 1) := by decide +kernel
theorem dX9_wordOf_75 : decode cX9_wordOf 75 = .ok (.iadd, 1) := by decide +kernel
theorem dX9_wordOf_76 : decode cX9_wordOf 76 = .ok (.goto 6, 3) := by decide +kernel
theorem dX9_wordOf_79 : decode cX9_wordOf 79 = .ok (.sipush 401, 3) := by decide +kernel
theorem dX9_wordOf_82 : decode cX9_wordOf 82 = .ok (.istore 5, 2) := by decide +kernel
theorem dX9_wordOf_84 : decode cX9_wordOf 84 = .ok (.iinc 6 1, 3) := by decide +kernel
theorem dX9_wordOf_87 : decode cX9_wordOf 87 = .ok (.goto (-76), 3) := by decide +kernel
theorem dX9_wordOf_90 : decode cX9_wordOf 90 = .ok (.sipush 302, 3) := by decide +kernel
theorem dX9_wordOf_93 : decode cX9_wordOf 93 = .ok (.ireturn, 1) := by decide +kernel
theorem dX9_cutsNumber_0 : decode cX9_cutsNumber 0 = .ok (.iload_n 2, 1) := by decide +kernel
theorem dX9_cutsNumber_1 : decode cX9_cutsNumber 1 = .ok (.istore_n 3, 1) := by decide +kernel
theorem dX9_cutsNumber_2 : decode cX9_cutsNumber 2 = .ok (.iconst 0, 1) := by decide +kernel
theorem dX9_cutsNumber_3 : decode cX9_cutsNumber 3 = .ok (.istore 4, 2) := by decide +kernel
theorem dX9_cutsNumber_5 : decode cX9_cutsNumber 5 = .ok (.iload_n 3, 1) := by decide +kernel
theorem dX9_cutsNumber_6 : decode cX9_cutsNumber 6 = .ok (.aload_n 1, 1) := by decide +kernel
theorem dX9_cutsNumber_7 : decode cX9_cutsNumber 7 = .ok (.getfield 28, 3) := by decide +kernel
theorem dX9_cutsNumber_10 : decode cX9_cutsNumber 10 = .ok (.if_icmp .ge 52, 3) := by decide +kernel
theorem dX9_cutsNumber_13 : decode cX9_cutsNumber 13 = .ok (.aload_n 1, 1) := by decide +kernel
theorem dX9_cutsNumber_14 : decode cX9_cutsNumber 14 = .ok (.iload_n 3, 1) := by decide +kernel
theorem dX9_cutsNumber_15 : decode cX9_cutsNumber 15 = .ok (.invokevirtual 41, 3) := by decide +kernel
theorem dX9_cutsNumber_18 : decode cX9_cutsNumber 18 = .ok (.bipush 48, 2) := by decide +kernel
theorem dX9_cutsNumber_20 : decode cX9_cutsNumber 20 = .ok (.if_icmp .lt 42, 3) := by decide +kernel
theorem dX9_cutsNumber_23 : decode cX9_cutsNumber 23 = .ok (.aload_n 1, 1) := by decide +kernel
theorem dX9_cutsNumber_24 : decode cX9_cutsNumber 24 = .ok (.iload_n 3, 1) := by decide +kernel
theorem dX9_cutsNumber_25 : decode cX9_cutsNumber 25 = .ok (.invokevirtual 41, 3) := by decide +kernel
theorem dX9_cutsNumber_28 : decode cX9_cutsNumber 28 = .ok (.bipush 57, 2) := by decide +kernel
theorem dX9_cutsNumber_30 : decode cX9_cutsNumber 30 = .ok (.if_icmp .gt 32, 3) := by decide +kernel
theorem dX9_cutsNumber_33 : decode cX9_cutsNumber 33 = .ok (.iload_n 3, 1) := by decide +kernel
theorem dX9_cutsNumber_34 : decode cX9_cutsNumber 34 = .ok (.iload_n 2, 1) := by decide +kernel
theorem dX9_cutsNumber_35 : decode cX9_cutsNumber 35 = .ok (.iconst 3, 1) := by decide +kernel
theorem dX9_cutsNumber_36 : decode cX9_cutsNumber 36 = .ok (.iadd, 1) := by decide +kernel
theorem dX9_cutsNumber_37 : decode cX9_cutsNumber 37 = .ok (.if_icmp .ge 19, 3) := by decide +kernel
theorem dX9_cutsNumber_40 : decode cX9_cutsNumber 40 = .ok (.bipush 10, 2) := by decide +kernel
theorem dX9_cutsNumber_42 : decode cX9_cutsNumber 42 = .ok (.iload 4, 2) := by decide +kernel
theorem dX9_cutsNumber_44 : decode cX9_cutsNumber 44 = .ok (.imul, 1) := by decide +kernel
theorem dX9_cutsNumber_45 : decode cX9_cutsNumber 45 = .ok (.aload_n 1, 1) := by decide +kernel
theorem dX9_cutsNumber_46 : decode cX9_cutsNumber 46 = .ok (.iload_n 3, 1) := by decide +kernel
theorem dX9_cutsNumber_47 : decode cX9_cutsNumber 47 = .ok (.invokevirtual 41, 3) := by decide +kernel
theorem dX9_cutsNumber_50 : decode cX9_cutsNumber 50 = .ok (.iadd, 1) := by decide +kernel
theorem dX9_cutsNumber_51 : decode cX9_cutsNumber 51 = .ok (.bipush 48, 2) := by decide +kernel
theorem dX9_cutsNumber_53 : decode cX9_cutsNumber 53 = .ok (.isub, 1) := by decide +kernel
theorem dX9_cutsNumber_54 : decode cX9_cutsNumber 54 = .ok (.istore 4, 2) := by decide +kernel
theorem dX9_cutsNumber_56 : decode cX9_cutsNumber 56 = .ok (.iinc 3 1, 3) := by decide +kernel
theorem dX9_cutsNumber_59 : decode cX9_cutsNumber 59 = .ok (.goto (-54), 3) := by decide +kernel
theorem dX9_cutsNumber_62 : decode cX9_cutsNumber 62 = .ok (.aload_n 0, 1) := by decide +kernel
theorem dX9_cutsNumber_63 : decode cX9_cutsNumber 63 = .ok (.iload_n 3, 1) := by decide +kernel
theorem dX9_cutsNumber_64 : decode cX9_cutsNumber 64 = .ok (.iload_n 2, 1) := by decide +kernel
theorem dX9_cutsNumber_65 : decode cX9_cutsNumber 65 = .ok (.iconst 3, 1) := by decide +kernel
theorem dX9_cutsNumber_66 : decode cX9_cutsNumber 66 = .ok (.iadd, 1) := by decide +kernel
theorem dX9_cutsNumber_67 : decode cX9_cutsNumber 67 = .ok (.if_icmp .le 9, 3) := by decide +kernel
theorem dX9_cutsNumber_70 : decode cX9_cutsNumber 70 = .ok (.sipush 302, 3) := by decide +kernel
theorem dX9_cutsNumber_73 : decode cX9_cutsNumber 73 = .ok (.goto 6, 3) := by decide +kernel
theorem dX9_cutsNumber_76 : decode cX9_cutsNumber 76 = .ok (.sipush 301, 3) := by decide +kernel
theorem dX9_cutsNumber_79 : decode cX9_cutsNumber 79 = .ok (.iload_n 2, 1) := by decide +kernel
theorem dX9_cutsNumber_80 : decode cX9_cutsNumber 80 = .ok (.iload 4, 2) := by decide +kernel
theorem dX9_cutsNumber_82 : decode cX9_cutsNumber 82 = .ok (.invokevirtual 37, 3) := by decide +kernel
theorem dX9_cutsNumber_85 : decode cX9_cutsNumber 85 = .ok (.iload_n 3, 1) := by decide +kernel
theorem dX9_cutsNumber_86 : decode cX9_cutsNumber 86 = .ok (.ireturn, 1) := by decide +kernel
theorem dX9_adds_0 : decode cX9_adds 0 = .ok (.aload_n 0, 1) := by decide +kernel
theorem dX9_adds_1 : decode cX9_adds 1 = .ok (.getfield 21, 3) := by decide +kernel
theorem dX9_adds_4 : decode cX9_adds 4 = .ok (.sipush 400, 3) := by decide +kernel
theorem dX9_adds_7 : decode cX9_adds 7 = .ok (.if_icmp .gt 43, 3) := by decide +kernel
theorem dX9_adds_10 : decode cX9_adds 10 = .ok (.aload_n 0, 1) := by decide +kernel
theorem dX9_adds_11 : decode cX9_adds 11 = .ok (.getfield 9, 3) := by decide +kernel
theorem dX9_adds_14 : decode cX9_adds 14 = .ok (.aload_n 0, 1) := by decide +kernel
theorem dX9_adds_15 : decode cX9_adds 15 = .ok (.getfield 21, 3) := by decide +kernel
theorem dX9_adds_18 : decode cX9_adds 18 = .ok (.iload_n 1, 1) := by decide +kernel
theorem dX9_adds_19 : decode cX9_adds 19 = .ok (.iastore, 1) := by decide +kernel
theorem dX9_adds_20 : decode cX9_adds 20 = .ok (.aload_n 0, 1) := by decide +kernel
theorem dX9_adds_21 : decode cX9_adds 21 = .ok (.getfield 15, 3) := by decide +kernel
theorem dX9_adds_24 : decode cX9_adds 24 = .ok (.aload_n 0, 1) := by decide +kernel
theorem dX9_adds_25 : decode cX9_adds 25 = .ok (.getfield 21, 3) := by decide +kernel
theorem dX9_adds_28 : decode cX9_adds 28 = .ok (.iload_n 2, 1) := by decide +kernel
theorem dX9_adds_29 : decode cX9_adds 29 = .ok (.iastore, 1) := by decide +kernel
theorem dX9_adds_30 : decode cX9_adds 30 = .ok (.aload_n 0, 1) := by decide +kernel
theorem dX9_adds_31 : decode cX9_adds 31 = .ok (.getfield 18, 3) := by decide +kernel
theorem dX9_adds_34 : decode cX9_adds 34 = .ok (.aload_n 0, 1) := by decide +kernel
theorem dX9_adds_35 : decode cX9_adds 35 = .ok (.getfield 21, 3) := by decide +kernel
theorem dX9_adds_38 : decode cX9_adds 38 = .ok (.iload_n 3, 1) := by decide +kernel
theorem dX9_adds_39 : decode cX9_adds 39 = .ok (.iastore, 1) := by decide +kernel
theorem dX9_adds_40 : decode cX9_adds 40 = .ok (.aload_n 0, 1) := by decide +kernel
theorem dX9_adds_41 : decode cX9_adds 41 = .ok (.dup, 1) := by decide +kernel
theorem dX9_adds_42 : decode cX9_adds 42 = .ok (.getfield 21, 3) := by decide +kernel
theorem dX9_adds_45 : decode cX9_adds 45 = .ok (.iconst 1, 1) := by decide +kernel
theorem dX9_adds_46 : decode cX9_adds 46 = .ok (.iadd, 1) := by decide +kernel
theorem dX9_adds_47 : decode cX9_adds 47 = .ok (.putfield 21, 3) := by decide +kernel
theorem dX9_adds_50 : decode cX9_adds 50 = .ok (.return_, 1) := by decide +kernel
theorem dX9_kind_0 : decode cX9_kind 0 = .ok (.aload_n 0, 1) := by decide +kernel
theorem dX9_kind_1 : decode cX9_kind 1 = .ok (.getfield 25, 3) := by decide +kernel
theorem dX9_kind_4 : decode cX9_kind 4 = .ok (.ifCond .lt 25, 3) := by decide +kernel
theorem dX9_kind_7 : decode cX9_kind 7 = .ok (.aload_n 0, 1) := by decide +kernel
theorem dX9_kind_8 : decode cX9_kind 8 = .ok (.getfield 25, 3) := by decide +kernel
theorem dX9_kind_11 : decode cX9_kind 11 = .ok (.sipush 400, 3) := by decide +kernel
theorem dX9_kind_14 : decode cX9_kind 14 = .ok (.if_icmp .gt 15, 3) := by decide +kernel
theorem dX9_kind_17 : decode cX9_kind 17 = .ok (.aload_n 0, 1) := by decide +kernel
theorem dX9_kind_18 : decode cX9_kind 18 = .ok (.getfield 9, 3) := by decide +kernel
theorem dX9_kind_21 : decode cX9_kind 21 = .ok (.aload_n 0, 1) := by decide +kernel
theorem dX9_kind_22 : decode cX9_kind 22 = .ok (.getfield 25, 3) := by decide +kernel
theorem dX9_kind_25 : decode cX9_kind 25 = .ok (.iaload, 1) := by decide +kernel
theorem dX9_kind_26 : decode cX9_kind 26 = .ok (.goto 6, 3) := by decide +kernel
theorem dX9_kind_29 : decode cX9_kind 29 = .ok (.sipush 303, 3) := by decide +kernel
theorem dX9_kind_32 : decode cX9_kind 32 = .ok (.ireturn, 1) := by decide +kernel
theorem dX9_begin_0 : decode cX9_begin 0 = .ok (.aload_n 0, 1) := by decide +kernel
theorem dX9_begin_1 : decode cX9_begin 1 = .ok (.getfield 25, 3) := by decide +kernel
theorem dX9_begin_4 : decode cX9_begin 4 = .ok (.ifCond .lt 25, 3) := by decide +kernel
theorem dX9_begin_7 : decode cX9_begin 7 = .ok (.aload_n 0, 1) := by decide +kernel
theorem dX9_begin_8 : decode cX9_begin 8 = .ok (.getfield 25, 3) := by decide +kernel
theorem dX9_begin_11 : decode cX9_begin 11 = .ok (.sipush 400, 3) := by decide +kernel
theorem dX9_begin_14 : decode cX9_begin 14 = .ok (.if_icmp .gt 15, 3) := by decide +kernel
theorem dX9_begin_17 : decode cX9_begin 17 = .ok (.aload_n 0, 1) := by decide +kernel
theorem dX9_begin_18 : decode cX9_begin 18 = .ok (.getfield 15, 3) := by decide +kernel
theorem dX9_begin_21 : decode cX9_begin 21 = .ok (.aload_n 0, 1) := by decide +kernel
theorem dX9_begin_22 : decode cX9_begin 22 = .ok (.getfield 25, 3) := by decide +kernel
theorem dX9_begin_25 : decode cX9_begin 25 = .ok (.iaload, 1) := by decide +kernel
theorem dX9_begin_26 : decode cX9_begin 26 = .ok (.goto 4, 3) := by decide +kernel
theorem dX9_begin_29 : decode cX9_begin 29 = .ok (.iconst (-1), 1) := by decide +kernel
theorem dX9_begin_30 : decode cX9_begin 30 = .ok (.ireturn, 1) := by decide +kernel
theorem dX9_eats_0 : decode cX9_eats 0 = .ok (.aload_n 0, 1) := by decide +kernel
theorem dX9_eats_1 : decode cX9_eats 1 = .ok (.getfield 25, 3) := by decide +kernel
theorem dX9_eats_4 : decode cX9_eats 4 = .ok (.ifCond .lt 26, 3) := by decide +kernel
theorem dX9_eats_7 : decode cX9_eats 7 = .ok (.aload_n 0, 1) := by decide +kernel
theorem dX9_eats_8 : decode cX9_eats 8 = .ok (.getfield 25, 3) := by decide +kernel
theorem dX9_eats_11 : decode cX9_eats 11 = .ok (.sipush 400, 3) := by decide +kernel
theorem dX9_eats_14 : decode cX9_eats 14 = .ok (.if_icmp .gt 16, 3) := by decide +kernel
theorem dX9_eats_17 : decode cX9_eats 17 = .ok (.aload_n 0, 1) := by decide +kernel
theorem dX9_eats_18 : decode cX9_eats 18 = .ok (.getfield 9, 3) := by decide +kernel
theorem dX9_eats_21 : decode cX9_eats 21 = .ok (.aload_n 0, 1) := by decide +kernel
theorem dX9_eats_22 : decode cX9_eats 22 = .ok (.getfield 25, 3) := by decide +kernel
theorem dX9_eats_25 : decode cX9_eats 25 = .ok (.iaload, 1) := by decide +kernel
theorem dX9_eats_26 : decode cX9_eats 26 = .ok (.iload_n 1, 1) := by decide +kernel
theorem dX9_eats_27 : decode cX9_eats 27 = .ok (.if_icmp .eq 5, 3) := by decide +kernel
theorem dX9_eats_30 : decode cX9_eats 30 = .ok (.iconst 0, 1) := by decide +kernel
theorem dX9_eats_31 : decode cX9_eats 31 = .ok (.ireturn, 1) := by decide +kernel
theorem dX9_eats_32 : decode cX9_eats 32 = .ok (.aload_n 0, 1) := by decide +kernel
theorem dX9_eats_33 : decode cX9_eats 33 = .ok (.dup, 1) := by decide +kernel
theorem dX9_eats_34 : decode cX9_eats 34 = .ok (.getfield 25, 3) := by decide +kernel
theorem dX9_eats_37 : decode cX9_eats 37 = .ok (.iconst 1, 1) := by decide +kernel
theorem dX9_eats_38 : decode cX9_eats 38 = .ok (.iadd, 1) := by decide +kernel
theorem dX9_eats_39 : decode cX9_eats 39 = .ok (.putfield 25, 3) := by decide +kernel
theorem dX9_eats_42 : decode cX9_eats 42 = .ok (.iconst 1, 1) := by decide +kernel
theorem dX9_eats_43 : decode cX9_eats 43 = .ok (.ireturn, 1) := by decide +kernel
theorem dX9_eatsNumber_0 : decode cX9_eatsNumber 0 = .ok (.aload_n 0, 1) := by decide +kernel
theorem dX9_eatsNumber_1 : decode cX9_eatsNumber 1 = .ok (.getfield 25, 3) := by decide +kernel
theorem dX9_eatsNumber_4 : decode cX9_eatsNumber 4 = .ok (.ifCond .lt 54, 3) := by decide +kernel
theorem dX9_eatsNumber_7 : decode cX9_eatsNumber 7 = .ok (.aload_n 0, 1) := by decide +kernel
theorem dX9_eatsNumber_8 : decode cX9_eatsNumber 8 = .ok (.getfield 25, 3) := by decide +kernel
theorem dX9_eatsNumber_11 : decode cX9_eatsNumber 11 = .ok (.sipush 400, 3) := by decide +kernel
theorem dX9_eatsNumber_14 : decode cX9_eatsNumber 14 = .ok (.if_icmp .gt 44, 3) := by decide +kernel
theorem dX9_eatsNumber_17 : decode cX9_eatsNumber 17 = .ok (.aload_n 0, 1) := by decide +kernel
theorem dX9_eatsNumber_18 : decode cX9_eatsNumber 18 = .ok (.getfield 9, 3) := by decide +kernel
theorem dX9_eatsNumber_21 : decode cX9_eatsNumber 21 = .ok (.aload_n 0, 1) := by decide +kernel
theorem dX9_eatsNumber_22 : decode cX9_eatsNumber 22 = .ok (.getfield 25, 3) := by decide +kernel
theorem dX9_eatsNumber_25 : decode cX9_eatsNumber 25 = .ok (.iaload, 1) := by decide +kernel
theorem dX9_eatsNumber_26 : decode cX9_eatsNumber 26 = .ok (.sipush 301, 3) := by decide +kernel
theorem dX9_eatsNumber_29 : decode cX9_eatsNumber 29 = .ok (.if_icmp .ne 29, 3) := by decide +kernel
theorem dX9_eatsNumber_32 : decode cX9_eatsNumber 32 = .ok (.aload_n 0, 1) := by decide +kernel
theorem dX9_eatsNumber_33 : decode cX9_eatsNumber 33 = .ok (.getfield 18, 3) := by decide +kernel
theorem dX9_eatsNumber_36 : decode cX9_eatsNumber 36 = .ok (.aload_n 0, 1) := by decide +kernel
theorem dX9_eatsNumber_37 : decode cX9_eatsNumber 37 = .ok (.getfield 25, 3) := by decide +kernel
theorem dX9_eatsNumber_40 : decode cX9_eatsNumber 40 = .ok (.iaload, 1) := by decide +kernel
theorem dX9_eatsNumber_41 : decode cX9_eatsNumber 41 = .ok (.iload_n 1, 1) := by decide +kernel
theorem dX9_eatsNumber_42 : decode cX9_eatsNumber 42 = .ok (.if_icmp .lt 16, 3) := by decide +kernel
theorem dX9_eatsNumber_45 : decode cX9_eatsNumber 45 = .ok (.aload_n 0, 1) := by decide +kernel
theorem dX9_eatsNumber_46 : decode cX9_eatsNumber 46 = .ok (.getfield 18, 3) := by decide +kernel
theorem dX9_eatsNumber_49 : decode cX9_eatsNumber 49 = .ok (.aload_n 0, 1) := by decide +kernel
theorem dX9_eatsNumber_50 : decode cX9_eatsNumber 50 = .ok (.getfield 25, 3) := by decide +kernel
theorem dX9_eatsNumber_53 : decode cX9_eatsNumber 53 = .ok (.iaload, 1) := by decide +kernel
theorem dX9_eatsNumber_54 : decode cX9_eatsNumber 54 = .ok (.iload_n 2, 1) := by decide +kernel
theorem dX9_eatsNumber_55 : decode cX9_eatsNumber 55 = .ok (.if_icmp .le 5, 3) := by decide +kernel
theorem dX9_eatsNumber_58 : decode cX9_eatsNumber 58 = .ok (.iconst (-1), 1) := by decide +kernel
theorem dX9_eatsNumber_59 : decode cX9_eatsNumber 59 = .ok (.ireturn, 1) := by decide +kernel
theorem dX9_eatsNumber_60 : decode cX9_eatsNumber 60 = .ok (.aload_n 0, 1) := by decide +kernel
theorem dX9_eatsNumber_61 : decode cX9_eatsNumber 61 = .ok (.getfield 18, 3) := by decide +kernel
theorem dX9_eatsNumber_64 : decode cX9_eatsNumber 64 = .ok (.aload_n 0, 1) := by decide +kernel
theorem dX9_eatsNumber_65 : decode cX9_eatsNumber 65 = .ok (.getfield 25, 3) := by decide +kernel
theorem dX9_eatsNumber_68 : decode cX9_eatsNumber 68 = .ok (.iaload, 1) := by decide +kernel
theorem dX9_eatsNumber_69 : decode cX9_eatsNumber 69 = .ok (.istore_n 3, 1) := by decide +kernel
theorem dX9_eatsNumber_70 : decode cX9_eatsNumber 70 = .ok (.aload_n 0, 1) := by decide +kernel
theorem dX9_eatsNumber_71 : decode cX9_eatsNumber 71 = .ok (.dup, 1) := by decide +kernel
theorem dX9_eatsNumber_72 : decode cX9_eatsNumber 72 = .ok (.getfield 25, 3) := by decide +kernel
theorem dX9_eatsNumber_75 : decode cX9_eatsNumber 75 = .ok (.iconst 1, 1) := by decide +kernel
theorem dX9_eatsNumber_76 : decode cX9_eatsNumber 76 = .ok (.iadd, 1) := by decide +kernel
theorem dX9_eatsNumber_77 : decode cX9_eatsNumber 77 = .ok (.putfield 25, 3) := by decide +kernel
theorem dX9_eatsNumber_80 : decode cX9_eatsNumber 80 = .ok (.iload_n 3, 1) := by decide +kernel
theorem dX9_eatsNumber_81 : decode cX9_eatsNumber 81 = .ok (.ireturn, 1) := by decide +kernel
theorem dX9_eatsLetter_0 : decode cX9_eatsLetter 0 = .ok (.aload_n 0, 1) := by decide +kernel
theorem dX9_eatsLetter_1 : decode cX9_eatsLetter 1 = .ok (.getfield 25, 3) := by decide +kernel
theorem dX9_eatsLetter_4 : decode cX9_eatsLetter 4 = .ok (.ifCond .lt 28, 3) := by decide +kernel
theorem dX9_eatsLetter_7 : decode cX9_eatsLetter 7 = .ok (.aload_n 0, 1) := by decide +kernel
theorem dX9_eatsLetter_8 : decode cX9_eatsLetter 8 = .ok (.getfield 25, 3) := by decide +kernel
theorem dX9_eatsLetter_11 : decode cX9_eatsLetter 11 = .ok (.sipush 400, 3) := by decide +kernel
theorem dX9_eatsLetter_14 : decode cX9_eatsLetter 14 = .ok (.if_icmp .gt 18, 3) := by decide +kernel
theorem dX9_eatsLetter_17 : decode cX9_eatsLetter 17 = .ok (.aload_n 0, 1) := by decide +kernel
theorem dX9_eatsLetter_18 : decode cX9_eatsLetter 18 = .ok (.getfield 9, 3) := by decide +kernel
theorem dX9_eatsLetter_21 : decode cX9_eatsLetter 21 = .ok (.aload_n 0, 1) := by decide +kernel
theorem dX9_eatsLetter_22 : decode cX9_eatsLetter 22 = .ok (.getfield 25, 3) := by decide +kernel
theorem dX9_eatsLetter_25 : decode cX9_eatsLetter 25 = .ok (.iaload, 1) := by decide +kernel
theorem dX9_eatsLetter_26 : decode cX9_eatsLetter 26 = .ok (.sipush 300, 3) := by decide +kernel
theorem dX9_eatsLetter_29 : decode cX9_eatsLetter 29 = .ok (.if_icmp .eq 5, 3) := by decide +kernel
theorem dX9_eatsLetter_32 : decode cX9_eatsLetter 32 = .ok (.iconst (-1), 1) := by decide +kernel
theorem dX9_eatsLetter_33 : decode cX9_eatsLetter 33 = .ok (.ireturn, 1) := by decide +kernel
theorem dX9_eatsLetter_34 : decode cX9_eatsLetter 34 = .ok (.aload_n 0, 1) := by decide +kernel
theorem dX9_eatsLetter_35 : decode cX9_eatsLetter 35 = .ok (.getfield 18, 3) := by decide +kernel
theorem dX9_eatsLetter_38 : decode cX9_eatsLetter 38 = .ok (.aload_n 0, 1) := by decide +kernel
theorem dX9_eatsLetter_39 : decode cX9_eatsLetter 39 = .ok (.getfield 25, 3) := by decide +kernel
theorem dX9_eatsLetter_42 : decode cX9_eatsLetter 42 = .ok (.iaload, 1) := by decide +kernel
theorem dX9_eatsLetter_43 : decode cX9_eatsLetter 43 = .ok (.istore_n 1, 1) := by decide +kernel
theorem dX9_eatsLetter_44 : decode cX9_eatsLetter 44 = .ok (.aload_n 0, 1) := by decide +kernel
theorem dX9_eatsLetter_45 : decode cX9_eatsLetter 45 = .ok (.dup, 1) := by decide +kernel
theorem dX9_eatsLetter_46 : decode cX9_eatsLetter 46 = .ok (.getfield 25, 3) := by decide +kernel
theorem dX9_eatsLetter_49 : decode cX9_eatsLetter 49 = .ok (.iconst 1, 1) := by decide +kernel
theorem dX9_eatsLetter_50 : decode cX9_eatsLetter 50 = .ok (.iadd, 1) := by decide +kernel
theorem dX9_eatsLetter_51 : decode cX9_eatsLetter 51 = .ok (.putfield 25, 3) := by decide +kernel
theorem dX9_eatsLetter_54 : decode cX9_eatsLetter 54 = .ok (.iload_n 1, 1) := by decide +kernel
theorem dX9_eatsLetter_55 : decode cX9_eatsLetter 55 = .ok (.ireturn, 1) := by decide +kernel
theorem dJ6_bitCount_0f7a4_0 : decode cJ6_bitCount_0f7a4 0 = .ok (.iload_n 0, 1) := by decide +kernel
theorem dJ6_bitCount_0f7a4_1 : decode cJ6_bitCount_0f7a4 1 = .ok (.iload_n 0, 1) := by decide +kernel
theorem dJ6_bitCount_0f7a4_2 : decode cJ6_bitCount_0f7a4 2 = .ok (.iconst 1, 1) := by decide +kernel
theorem dJ6_bitCount_0f7a4_3 : decode cJ6_bitCount_0f7a4 3 = .ok (.iushr, 1) := by decide +kernel
theorem dJ6_bitCount_0f7a4_4 : decode cJ6_bitCount_0f7a4 4 = .ok (.ldc_w 265, 3) := by decide +kernel
theorem dJ6_bitCount_0f7a4_7 : decode cJ6_bitCount_0f7a4 7 = .ok (.iand, 1) := by decide +kernel
theorem dJ6_bitCount_0f7a4_8 : decode cJ6_bitCount_0f7a4 8 = .ok (.isub, 1) := by decide +kernel
theorem dJ6_bitCount_0f7a4_9 : decode cJ6_bitCount_0f7a4 9 = .ok (.istore_n 0, 1) := by decide +kernel
theorem dJ6_bitCount_0f7a4_10 : decode cJ6_bitCount_0f7a4 10 = .ok (.iload_n 0, 1) := by decide +kernel
theorem dJ6_bitCount_0f7a4_11 : decode cJ6_bitCount_0f7a4 11 = .ok (.ldc_w 266, 3) := by decide +kernel
theorem dJ6_bitCount_0f7a4_14 : decode cJ6_bitCount_0f7a4 14 = .ok (.iand, 1) := by decide +kernel
theorem dJ6_bitCount_0f7a4_15 : decode cJ6_bitCount_0f7a4 15 = .ok (.iload_n 0, 1) := by decide +kernel
theorem dJ6_bitCount_0f7a4_16 : decode cJ6_bitCount_0f7a4 16 = .ok (.iconst 2, 1) := by decide +kernel
theorem dJ6_bitCount_0f7a4_17 : decode cJ6_bitCount_0f7a4 17 = .ok (.iushr, 1) := by decide +kernel
theorem dJ6_bitCount_0f7a4_18 : decode cJ6_bitCount_0f7a4 18 = .ok (.ldc_w 266, 3) := by decide +kernel
theorem dJ6_bitCount_0f7a4_21 : decode cJ6_bitCount_0f7a4 21 = .ok (.iand, 1) := by decide +kernel
theorem dJ6_bitCount_0f7a4_22 : decode cJ6_bitCount_0f7a4 22 = .ok (.iadd, 1) := by decide +kernel
theorem dJ6_bitCount_0f7a4_23 : decode cJ6_bitCount_0f7a4 23 = .ok (.istore_n 0, 1) := by decide +kernel
theorem dJ6_bitCount_0f7a4_24 : decode cJ6_bitCount_0f7a4 24 = .ok (.iload_n 0, 1) := by decide +kernel
theorem dJ6_bitCount_0f7a4_25 : decode cJ6_bitCount_0f7a4 25 = .ok (.iload_n 0, 1) := by decide +kernel
theorem dJ6_bitCount_0f7a4_26 : decode cJ6_bitCount_0f7a4 26 = .ok (.iconst 4, 1) := by decide +kernel
theorem dJ6_bitCount_0f7a4_27 : decode cJ6_bitCount_0f7a4 27 = .ok (.iushr, 1) := by decide +kernel
theorem dJ6_bitCount_0f7a4_28 : decode cJ6_bitCount_0f7a4 28 = .ok (.iadd, 1) := by decide +kernel
theorem dJ6_bitCount_0f7a4_29 : decode cJ6_bitCount_0f7a4 29 = .ok (.ldc_w 267, 3) := by decide +kernel
theorem dJ6_bitCount_0f7a4_32 : decode cJ6_bitCount_0f7a4 32 = .ok (.iand, 1) := by decide +kernel
theorem dJ6_bitCount_0f7a4_33 : decode cJ6_bitCount_0f7a4 33 = .ok (.istore_n 0, 1) := by decide +kernel
theorem dJ6_bitCount_0f7a4_34 : decode cJ6_bitCount_0f7a4 34 = .ok (.iload_n 0, 1) := by decide +kernel
theorem dJ6_bitCount_0f7a4_35 : decode cJ6_bitCount_0f7a4 35 = .ok (.iload_n 0, 1) := by decide +kernel
theorem dJ6_bitCount_0f7a4_36 : decode cJ6_bitCount_0f7a4 36 = .ok (.bipush 8, 2) := by decide +kernel
theorem dJ6_bitCount_0f7a4_38 : decode cJ6_bitCount_0f7a4 38 = .ok (.iushr, 1) := by decide +kernel
theorem dJ6_bitCount_0f7a4_39 : decode cJ6_bitCount_0f7a4 39 = .ok (.iadd, 1) := by decide +kernel
theorem dJ6_bitCount_0f7a4_40 : decode cJ6_bitCount_0f7a4 40 = .ok (.istore_n 0, 1) := by decide +kernel
theorem dJ6_bitCount_0f7a4_41 : decode cJ6_bitCount_0f7a4 41 = .ok (.iload_n 0, 1) := by decide +kernel
theorem dJ6_bitCount_0f7a4_42 : decode cJ6_bitCount_0f7a4 42 = .ok (.iload_n 0, 1) := by decide +kernel
theorem dJ6_bitCount_0f7a4_43 : decode cJ6_bitCount_0f7a4 43 = .ok (.bipush 16, 2) := by decide +kernel
theorem dJ6_bitCount_0f7a4_45 : decode cJ6_bitCount_0f7a4 45 = .ok (.iushr, 1) := by decide +kernel
theorem dJ6_bitCount_0f7a4_46 : decode cJ6_bitCount_0f7a4 46 = .ok (.iadd, 1) := by decide +kernel
theorem dJ6_bitCount_0f7a4_47 : decode cJ6_bitCount_0f7a4 47 = .ok (.istore_n 0, 1) := by decide +kernel
theorem dJ6_bitCount_0f7a4_48 : decode cJ6_bitCount_0f7a4 48 = .ok (.iload_n 0, 1) := by decide +kernel
theorem dJ6_bitCount_0f7a4_49 : decode cJ6_bitCount_0f7a4 49 = .ok (.bipush 63, 2) := by decide +kernel
theorem dJ6_bitCount_0f7a4_51 : decode cJ6_bitCount_0f7a4 51 = .ok (.iand, 1) := by decide +kernel
theorem dJ6_bitCount_0f7a4_52 : decode cJ6_bitCount_0f7a4 52 = .ok (.ireturn, 1) := by decide +kernel
theorem dJ9_max_7cf53_0 : decode cJ9_max_7cf53 0 = .ok (.iload_n 0, 1) := by decide +kernel
theorem dJ9_max_7cf53_1 : decode cJ9_max_7cf53 1 = .ok (.iload_n 1, 1) := by decide +kernel
theorem dJ9_max_7cf53_2 : decode cJ9_max_7cf53 2 = .ok (.if_icmp .lt 7, 3) := by decide +kernel
theorem dJ9_max_7cf53_5 : decode cJ9_max_7cf53 5 = .ok (.iload_n 0, 1) := by decide +kernel
theorem dJ9_max_7cf53_6 : decode cJ9_max_7cf53 6 = .ok (.goto 4, 3) := by decide +kernel
theorem dJ9_max_7cf53_9 : decode cJ9_max_7cf53 9 = .ok (.iload_n 1, 1) := by decide +kernel
theorem dJ9_max_7cf53_10 : decode cJ9_max_7cf53 10 = .ok (.ireturn, 1) := by decide +kernel
theorem dJ9_min_7cf53_0 : decode cJ9_min_7cf53 0 = .ok (.iload_n 0, 1) := by decide +kernel
theorem dJ9_min_7cf53_1 : decode cJ9_min_7cf53 1 = .ok (.iload_n 1, 1) := by decide +kernel
theorem dJ9_min_7cf53_2 : decode cJ9_min_7cf53 2 = .ok (.if_icmp .gt 7, 3) := by decide +kernel
theorem dJ9_min_7cf53_5 : decode cJ9_min_7cf53 5 = .ok (.iload_n 0, 1) := by decide +kernel
theorem dJ9_min_7cf53_6 : decode cJ9_min_7cf53 6 = .ok (.goto 4, 3) := by decide +kernel
theorem dJ9_min_7cf53_9 : decode cJ9_min_7cf53 9 = .ok (.iload_n 1, 1) := by decide +kernel
theorem dJ9_min_7cf53_10 : decode cJ9_min_7cf53 10 = .ok (.ireturn, 1) := by decide +kernel
theorem dJ0_length_8abf5_0 : decode cJ0_length_8abf5 0 = .ok (.aload_n 0, 1) := by decide +kernel
theorem dJ0_length_8abf5_1 : decode cJ0_length_8abf5 1 = .ok (.getfield 9, 3) := by decide +kernel
theorem dJ0_length_8abf5_4 : decode cJ0_length_8abf5 4 = .ok (.arraylength, 1) := by decide +kernel
theorem dJ0_length_8abf5_5 : decode cJ0_length_8abf5 5 = .ok (.aload_n 0, 1) := by decide +kernel
theorem dJ0_length_8abf5_6 : decode cJ0_length_8abf5 6 = .ok (.invokevirtual 335, 3) := by decide +kernel
theorem dJ0_length_8abf5_9 : decode cJ0_length_8abf5 9 = .ok (.ishr, 1) := by decide +kernel
theorem dJ0_length_8abf5_10 : decode cJ0_length_8abf5 10 = .ok (.ireturn, 1) := by decide +kernel
theorem dJ0_charAt_5068e_0 : decode cJ0_charAt_5068e 0 = .ok (.aload_n 0, 1) := by decide +kernel
theorem dJ0_charAt_5068e_1 : decode cJ0_charAt_5068e 1 = .ok (.invokevirtual 492, 3) := by decide +kernel
theorem dJ0_charAt_5068e_4 : decode cJ0_charAt_5068e 4 = .ok (.ifCond .eq 12, 3) := by decide +kernel
theorem dJ0_charAt_5068e_7 : decode cJ0_charAt_5068e 7 = .ok (.aload_n 0, 1) := by decide +kernel
theorem dJ0_charAt_5068e_8 : decode cJ0_charAt_5068e 8 = .ok (.getfield 9, 3) := by decide +kernel
theorem dJ0_charAt_5068e_11 : decode cJ0_charAt_5068e 11 = .ok (.iload_n 1, 1) := by decide +kernel
theorem dJ0_charAt_5068e_12 : decode cJ0_charAt_5068e 12 = .ok (.invokestatic 495, 3) := by decide +kernel
theorem dJ0_charAt_5068e_15 : decode cJ0_charAt_5068e 15 = .ok (.ireturn, 1) := by decide +kernel
theorem dJ0_charAt_5068e_16 : decode cJ0_charAt_5068e 16 = .ok (.aload_n 0, 1) := by decide +kernel
theorem dJ0_charAt_5068e_17 : decode cJ0_charAt_5068e 17 = .ok (.getfield 9, 3) := by decide +kernel
theorem dJ0_charAt_5068e_20 : decode cJ0_charAt_5068e 20 = .ok (.iload_n 1, 1) := by decide +kernel
theorem dJ0_charAt_5068e_21 : decode cJ0_charAt_5068e 21 = .ok (.invokestatic 498, 3) := by decide +kernel
theorem dJ0_charAt_5068e_24 : decode cJ0_charAt_5068e 24 = .ok (.ireturn, 1) := by decide +kernel
theorem dJ0_coder_7d493_0 : decode cJ0_coder_7d493 0 = .ok (.getstatic 38, 3) := by decide +kernel
theorem dJ0_coder_7d493_3 : decode cJ0_coder_7d493 3 = .ok (.ifCond .eq 10, 3) := by decide +kernel
theorem dJ0_coder_7d493_6 : decode cJ0_coder_7d493 6 = .ok (.aload_n 0, 1) := by decide +kernel
theorem dJ0_coder_7d493_7 : decode cJ0_coder_7d493 7 = .ok (.getfield 15, 3) := by decide +kernel
theorem dJ0_coder_7d493_10 : decode cJ0_coder_7d493 10 = .ok (.goto 4, 3) := by decide +kernel
theorem dJ0_coder_7d493_13 : decode cJ0_coder_7d493 13 = .ok (.iconst 1, 1) := by decide +kernel
theorem dJ0_coder_7d493_14 : decode cJ0_coder_7d493 14 = .ok (.ireturn, 1) := by decide +kernel
theorem dJ0_isLatin1_aae02_0 : decode cJ0_isLatin1_aae02 0 = .ok (.getstatic 38, 3) := by decide +kernel
theorem dJ0_isLatin1_aae02_3 : decode cJ0_isLatin1_aae02 3 = .ok (.ifCond .eq 14, 3) := by decide +kernel
theorem dJ0_isLatin1_aae02_6 : decode cJ0_isLatin1_aae02 6 = .ok (.aload_n 0, 1) := by decide +kernel
theorem dJ0_isLatin1_aae02_7 : decode cJ0_isLatin1_aae02 7 = .ok (.getfield 15, 3) := by decide +kernel
theorem dJ0_isLatin1_aae02_10 : decode cJ0_isLatin1_aae02 10 = .ok (.ifCond .ne 7, 3) := by decide +kernel
theorem dJ0_isLatin1_aae02_13 : decode cJ0_isLatin1_aae02 13 = .ok (.iconst 1, 1) := by decide +kernel
theorem dJ0_isLatin1_aae02_14 : decode cJ0_isLatin1_aae02 14 = .ok (.goto 4, 3) := by decide +kernel
theorem dJ0_isLatin1_aae02_17 : decode cJ0_isLatin1_aae02 17 = .ok (.iconst 0, 1) := by decide +kernel
theorem dJ0_isLatin1_aae02_18 : decode cJ0_isLatin1_aae02 18 = .ok (.ireturn, 1) := by decide +kernel
theorem dJ0_checkIndex_df160_0 : decode cJ0_checkIndex_df160 0 = .ok (.iload_n 0, 1) := by decide +kernel
theorem dJ0_checkIndex_df160_1 : decode cJ0_checkIndex_df160 1 = .ok (.iload_n 1, 1) := by decide +kernel
theorem dJ0_checkIndex_df160_2 : decode cJ0_checkIndex_df160 2 = .ok (.getstatic 1053, 3) := by decide +kernel
theorem dJ0_checkIndex_df160_5 : decode cJ0_checkIndex_df160 5 = .ok (.invokestatic 1059, 3) := by decide +kernel
theorem dJ0_checkIndex_df160_8 : decode cJ0_checkIndex_df160 8 = .ok (.pop, 1) := by decide +kernel
theorem dJ0_checkIndex_df160_9 : decode cJ0_checkIndex_df160 9 = .ok (.return_, 1) := by decide +kernel
theorem dJ1_charAt_3b067_0 : decode cJ1_charAt_3b067 0 = .ok (.iload_n 1, 1) := by decide +kernel
theorem dJ1_charAt_3b067_1 : decode cJ1_charAt_3b067 1 = .ok (.aload_n 0, 1) := by decide +kernel
theorem dJ1_charAt_3b067_2 : decode cJ1_charAt_3b067 2 = .ok (.arraylength, 1) := by decide +kernel
theorem dJ1_charAt_3b067_3 : decode cJ1_charAt_3b067 3 = .ok (.invokestatic 9, 3) := by decide +kernel
theorem dJ1_charAt_3b067_6 : decode cJ1_charAt_3b067 6 = .ok (.aload_n 0, 1) := by decide +kernel
theorem dJ1_charAt_3b067_7 : decode cJ1_charAt_3b067 7 = .ok (.iload_n 1, 1) := by decide +kernel
theorem dJ1_charAt_3b067_8 : decode cJ1_charAt_3b067 8 = .ok (.baload, 1) := by decide +kernel
theorem dJ1_charAt_3b067_9 : decode cJ1_charAt_3b067 9 = .ok (.sipush 255, 3) := by decide +kernel
theorem dJ1_charAt_3b067_12 : decode cJ1_charAt_3b067 12 = .ok (.iand, 1) := by decide +kernel
theorem dJ1_charAt_3b067_13 : decode cJ1_charAt_3b067 13 = .ok (.i2c, 1) := by decide +kernel
theorem dJ1_charAt_3b067_14 : decode cJ1_charAt_3b067 14 = .ok (.ireturn, 1) := by decide +kernel
theorem dJ2_getChar_3b067_0 : decode cJ2_getChar_3b067 0 = .ok (.getstatic 44, 3) := by decide +kernel
theorem dJ2_getChar_3b067_3 : decode cJ2_getChar_3b067 3 = .ok (.ifCond .ne 25, 3) := by decide +kernel
theorem dJ2_getChar_3b067_6 : decode cJ2_getChar_3b067 6 = .ok (.iload_n 1, 1) := by decide +kernel
theorem dJ2_getChar_3b067_7 : decode cJ2_getChar_3b067 7 = .ok (.ifCond .lt 11, 3) := by decide +kernel
theorem dJ2_getChar_3b067_10 : decode cJ2_getChar_3b067 10 = .ok (.iload_n 1, 1) := by decide +kernel
theorem dJ2_getChar_3b067_11 : decode cJ2_getChar_3b067 11 = .ok (.aload_n 0, 1) := by decide +kernel
theorem dJ2_getChar_3b067_12 : decode cJ2_getChar_3b067 12 = .ok (.invokestatic 48, 3) := by decide +kernel
theorem dJ2_getChar_3b067_15 : decode cJ2_getChar_3b067 15 = .ok (.if_icmp .lt 13, 3) := by decide +kernel
theorem dJ2_getChar_3b067_18 : decode cJ2_getChar_3b067 18 = .ok (.new 52, 3) := by decide +kernel
theorem dJ2_getChar_3b067_21 : decode cJ2_getChar_3b067 21 = .ok (.dup, 1) := by decide +kernel
theorem dJ2_getChar_3b067_22 : decode cJ2_getChar_3b067 22 = .ok (.ldc 54, 2) := by decide +kernel
theorem dJ2_getChar_3b067_24 : decode cJ2_getChar_3b067 24 = .ok (.invokespecial 56, 3) := by decide +kernel
theorem dJ2_getChar_3b067_27 : decode cJ2_getChar_3b067 27 = .ok (.athrow, 1) := by decide +kernel
theorem dJ2_getChar_3b067_28 : decode cJ2_getChar_3b067 28 = .ok (.iload_n 1, 1) := by decide +kernel
theorem dJ2_getChar_3b067_29 : decode cJ2_getChar_3b067 29 = .ok (.iconst 1, 1) := by decide +kernel
theorem dJ2_getChar_3b067_30 : decode cJ2_getChar_3b067 30 = .ok (.ishl, 1) := by decide +kernel
theorem dJ2_getChar_3b067_31 : decode cJ2_getChar_3b067 31 = .ok (.istore_n 1, 1) := by decide +kernel
theorem dJ2_getChar_3b067_32 : decode cJ2_getChar_3b067 32 = .ok (.aload_n 0, 1) := by decide +kernel
theorem dJ2_getChar_3b067_33 : decode cJ2_getChar_3b067 33 = .ok (.iload_n 1, 1) := by decide +kernel
theorem dJ2_getChar_3b067_34 : decode cJ2_getChar_3b067 34 = .ok (.iinc 1 1, 3) := by decide +kernel
theorem dJ2_getChar_3b067_37 : decode cJ2_getChar_3b067 37 = .ok (.baload, 1) := by decide +kernel
theorem dJ2_getChar_3b067_38 : decode cJ2_getChar_3b067 38 = .ok (.sipush 255, 3) := by decide +kernel
theorem dJ2_getChar_3b067_41 : decode cJ2_getChar_3b067 41 = .ok (.iand, 1) := by decide +kernel
theorem dJ2_getChar_3b067_42 : decode cJ2_getChar_3b067 42 = .ok (.getstatic 59, 3) := by decide +kernel
theorem dJ2_getChar_3b067_45 : decode cJ2_getChar_3b067 45 = .ok (.ishl, 1) := by decide +kernel
theorem dJ2_getChar_3b067_46 : decode cJ2_getChar_3b067 46 = .ok (.aload_n 0, 1) := by decide +kernel
theorem dJ2_getChar_3b067_47 : decode cJ2_getChar_3b067 47 = .ok (.iload_n 1, 1) := by decide +kernel
theorem dJ2_getChar_3b067_48 : decode cJ2_getChar_3b067 48 = .ok (.baload, 1) := by decide +kernel
theorem dJ2_getChar_3b067_49 : decode cJ2_getChar_3b067 49 = .ok (.sipush 255, 3) := by decide +kernel
theorem dJ2_getChar_3b067_52 : decode cJ2_getChar_3b067 52 = .ok (.iand, 1) := by decide +kernel
theorem dJ2_getChar_3b067_53 : decode cJ2_getChar_3b067 53 = .ok (.getstatic 63, 3) := by decide +kernel
theorem dJ2_getChar_3b067_56 : decode cJ2_getChar_3b067 56 = .ok (.ishl, 1) := by decide +kernel
theorem dJ2_getChar_3b067_57 : decode cJ2_getChar_3b067 57 = .ok (.ior, 1) := by decide +kernel
theorem dJ2_getChar_3b067_58 : decode cJ2_getChar_3b067 58 = .ok (.i2c, 1) := by decide +kernel
theorem dJ2_getChar_3b067_59 : decode cJ2_getChar_3b067 59 = .ok (.ireturn, 1) := by decide +kernel
theorem dJ2_length_9d52b_0 : decode cJ2_length_9d52b 0 = .ok (.aload_n 0, 1) := by decide +kernel
theorem dJ2_length_9d52b_1 : decode cJ2_length_9d52b 1 = .ok (.arraylength, 1) := by decide +kernel
theorem dJ2_length_9d52b_2 : decode cJ2_length_9d52b 2 = .ok (.iconst 1, 1) := by decide +kernel
theorem dJ2_length_9d52b_3 : decode cJ2_length_9d52b 3 = .ok (.ishr, 1) := by decide +kernel
theorem dJ2_length_9d52b_4 : decode cJ2_length_9d52b 4 = .ok (.ireturn, 1) := by decide +kernel
theorem dJ2_charAt_3b067_0 : decode cJ2_charAt_3b067 0 = .ok (.iload_n 1, 1) := by decide +kernel
theorem dJ2_charAt_3b067_1 : decode cJ2_charAt_3b067 1 = .ok (.aload_n 0, 1) := by decide +kernel
theorem dJ2_charAt_3b067_2 : decode cJ2_charAt_3b067 2 = .ok (.invokestatic 67, 3) := by decide +kernel
theorem dJ2_charAt_3b067_5 : decode cJ2_charAt_3b067 5 = .ok (.aload_n 0, 1) := by decide +kernel
theorem dJ2_charAt_3b067_6 : decode cJ2_charAt_3b067 6 = .ok (.iload_n 1, 1) := by decide +kernel
theorem dJ2_charAt_3b067_7 : decode cJ2_charAt_3b067 7 = .ok (.invokestatic 71, 3) := by decide +kernel
theorem dJ2_charAt_3b067_10 : decode cJ2_charAt_3b067 10 = .ok (.ireturn, 1) := by decide +kernel
theorem dJ2_checkIndex_2214a_0 : decode cJ2_checkIndex_2214a 0 = .ok (.iload_n 0, 1) := by decide +kernel
theorem dJ2_checkIndex_2214a_1 : decode cJ2_checkIndex_2214a 1 = .ok (.aload_n 1, 1) := by decide +kernel
theorem dJ2_checkIndex_2214a_2 : decode cJ2_checkIndex_2214a 2 = .ok (.invokestatic 48, 3) := by decide +kernel
theorem dJ2_checkIndex_2214a_5 : decode cJ2_checkIndex_2214a 5 = .ok (.invokestatic 414, 3) := by decide +kernel
theorem dJ2_checkIndex_2214a_8 : decode cJ2_checkIndex_2214a 8 = .ok (.return_, 1) := by decide +kernel
theorem dJ7_fill_53178_0 : decode cJ7_fill_53178 0 = .ok (.iconst 0, 1) := by decide +kernel
theorem dJ7_fill_53178_1 : decode cJ7_fill_53178 1 = .ok (.istore_n 2, 1) := by decide +kernel
theorem dJ7_fill_53178_2 : decode cJ7_fill_53178 2 = .ok (.aload_n 0, 1) := by decide +kernel
theorem dJ7_fill_53178_3 : decode cJ7_fill_53178 3 = .ok (.arraylength, 1) := by decide +kernel
theorem dJ7_fill_53178_4 : decode cJ7_fill_53178 4 = .ok (.istore_n 3, 1) := by decide +kernel
theorem dJ7_fill_53178_5 : decode cJ7_fill_53178 5 = .ok (.iload_n 2, 1) := by decide +kernel
theorem dJ7_fill_53178_6 : decode cJ7_fill_53178 6 = .ok (.iload_n 3, 1) := by decide +kernel
theorem dJ7_fill_53178_7 : decode cJ7_fill_53178 7 = .ok (.if_icmp .ge 13, 3) := by decide +kernel
theorem dJ7_fill_53178_10 : decode cJ7_fill_53178 10 = .ok (.aload_n 0, 1) := by decide +kernel
theorem dJ7_fill_53178_11 : decode cJ7_fill_53178 11 = .ok (.iload_n 2, 1) := by decide +kernel
theorem dJ7_fill_53178_12 : decode cJ7_fill_53178 12 = .ok (.iload_n 1, 1) := by decide +kernel
theorem dJ7_fill_53178_13 : decode cJ7_fill_53178 13 = .ok (.iastore, 1) := by decide +kernel
theorem dJ7_fill_53178_14 : decode cJ7_fill_53178 14 = .ok (.iinc 2 1, 3) := by decide +kernel
theorem dJ7_fill_53178_17 : decode cJ7_fill_53178 17 = .ok (.goto (-12), 3) := by decide +kernel
theorem dJ7_fill_53178_20 : decode cJ7_fill_53178 20 = .ok (.return_, 1) := by decide +kernel
theorem dJ3_checkIndex_8e157_0 : decode cJ3_checkIndex_8e157 0 = .ok (.iload_n 0, 1) := by decide +kernel
theorem dJ3_checkIndex_8e157_1 : decode cJ3_checkIndex_8e157 1 = .ok (.ifCond .lt 8, 3) := by decide +kernel
theorem dJ3_checkIndex_8e157_4 : decode cJ3_checkIndex_8e157 4 = .ok (.iload_n 0, 1) := by decide +kernel
theorem dJ3_checkIndex_8e157_5 : decode cJ3_checkIndex_8e157 5 = .ok (.iload_n 1, 1) := by decide +kernel
theorem dJ3_checkIndex_8e157_6 : decode cJ3_checkIndex_8e157 6 = .ok (.if_icmp .lt 10, 3) := by decide +kernel
theorem dJ3_checkIndex_8e157_9 : decode cJ3_checkIndex_8e157 9 = .ok (.aload_n 2, 1) := by decide +kernel
theorem dJ3_checkIndex_8e157_10 : decode cJ3_checkIndex_8e157 10 = .ok (.iload_n 0, 1) := by decide +kernel
theorem dJ3_checkIndex_8e157_11 : decode cJ3_checkIndex_8e157 11 = .ok (.iload_n 1, 1) := by decide +kernel
theorem dJ3_checkIndex_8e157_12 : decode cJ3_checkIndex_8e157 12 = .ok (.invokestatic 95, 3) := by decide +kernel
theorem dJ3_checkIndex_8e157_15 : decode cJ3_checkIndex_8e157 15 = .ok (.athrow, 1) := by decide +kernel
theorem dJ3_checkIndex_8e157_16 : decode cJ3_checkIndex_8e157 16 = .ok (.iload_n 0, 1) := by decide +kernel
theorem dJ3_checkIndex_8e157_17 : decode cJ3_checkIndex_8e157 17 = .ok (.ireturn, 1) := by decide +kernel
