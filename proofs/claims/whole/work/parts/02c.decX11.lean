theorem dX11_thrown_0 : decode cX11_thrown 0 = .ok (.aload_n 0, 1) := by decide +kernel
theorem dX11_thrown_1 : decode cX11_thrown 1 = .ok (.getfield 3, 3) := by decide +kernel
theorem dX11_thrown_4 : decode cX11_thrown 4 = .ok (.ireturn, 1) := by decide +kernel
theorem dX11_throwsIf_0 : decode cX11_throwsIf 0 = .ok (.iload_n 1, 1) := by decide +kernel
theorem dX11_throwsIf_1 : decode cX11_throwsIf 1 = .ok (.ifCond .eq 8, 3) := by decide +kernel
theorem dX11_throwsIf_4 : decode cX11_throwsIf 4 = .ok (.aload_n 0, 1) := by decide +kernel
theorem dX11_throwsIf_5 : decode cX11_throwsIf 5 = .ok (.iload_n 2, 1) := by decide +kernel
theorem dX11_throwsIf_6 : decode cX11_throwsIf 6 = .ok (.putfield 3, 3) := by decide +kernel
theorem dX11_throwsIf_9 : decode cX11_throwsIf 9 = .ok (.iload_n 1, 1) := by decide +kernel
theorem dX11_throwsIf_10 : decode cX11_throwsIf 10 = .ok (.ireturn, 1) := by decide +kernel
theorem dX11_in_0 : decode cX11_in 0 = .ok (.iload_n 0, 1) := by decide +kernel
theorem dX11_in_1 : decode cX11_in 1 = .ok (.iload_n 1, 1) := by decide +kernel
theorem dX11_in_2 : decode cX11_in 2 = .ok (.if_icmp .lt 12, 3) := by decide +kernel
theorem dX11_in_5 : decode cX11_in 5 = .ok (.iload_n 0, 1) := by decide +kernel
theorem dX11_in_6 : decode cX11_in 6 = .ok (.iload_n 2, 1) := by decide +kernel
theorem dX11_in_7 : decode cX11_in 7 = .ok (.if_icmp .gt 7, 3) := by decide +kernel
theorem dX11_in_10 : decode cX11_in 10 = .ok (.iconst 1, 1) := by decide +kernel
theorem dX11_in_11 : decode cX11_in 11 = .ok (.goto 4, 3) := by decide +kernel
theorem dX11_in_14 : decode cX11_in 14 = .ok (.iconst 0, 1) := by decide +kernel
theorem dX11_in_15 : decode cX11_in 15 = .ok (.ireturn, 1) := by decide +kernel
theorem dX11_holds_0 : decode cX11_holds 0 = .ok (.iload_n 0, 1) := by decide +kernel
theorem dX11_holds_1 : decode cX11_holds 1 = .ok (.iload_n 1, 1) := by decide +kernel
theorem dX11_holds_2 : decode cX11_holds 2 = .ok (.ishr, 1) := by decide +kernel
theorem dX11_holds_3 : decode cX11_holds 3 = .ok (.iconst 1, 1) := by decide +kernel
theorem dX11_holds_4 : decode cX11_holds 4 = .ok (.iand, 1) := by decide +kernel
theorem dX11_holds_5 : decode cX11_holds 5 = .ok (.iconst 1, 1) := by decide +kernel
theorem dX11_holds_6 : decode cX11_holds 6 = .ok (.if_icmp .ne 7, 3) := by decide +kernel
theorem dX11_holds_9 : decode cX11_holds 9 = .ok (.iconst 1, 1) := by decide +kernel
theorem dX11_holds_10 : decode cX11_holds 10 = .ok (.goto 4, 3) := by decide +kernel
theorem dX11_holds_13 : decode cX11_holds 13 = .ok (.iconst 0, 1) := by decide +kernel
theorem dX11_holds_14 : decode cX11_holds 14 = .ok (.ireturn, 1) := by decide +kernel
theorem dX11_init_0 : decode cX11_init 0 = .ok (.aload_n 0, 1) := by decide +kernel
theorem dX11_init_1 : decode cX11_init 1 = .ok (.invokespecial 7, 3) := by decide +kernel
theorem dX11_init_4 : decode cX11_init 4 = .ok (.aload_n 0, 1) := by decide +kernel
theorem dX11_init_5 : decode cX11_init 5 = .ok (.sipush 2107, 3) := by decide +kernel
theorem dX11_init_8 : decode cX11_init 8 = .ok (.newarray .int, 2) := by decide +kernel
theorem dX11_init_10 : decode cX11_init 10 = .ok (.putfield 13, 3) := by decide +kernel
theorem dX11_init_13 : decode cX11_init 13 = .ok (.aload_n 0, 1) := by decide +kernel
theorem dX11_init_14 : decode cX11_init 14 = .ok (.sipush 1258, 3) := by decide +kernel
theorem dX11_init_17 : decode cX11_init 17 = .ok (.newarray .int, 2) := by decide +kernel
theorem dX11_init_19 : decode cX11_init 19 = .ok (.putfield 17, 3) := by decide +kernel
theorem dX11_init_22 : decode cX11_init 22 = .ok (.aload_n 0, 1) := by decide +kernel
theorem dX11_init_23 : decode cX11_init 23 = .ok (.sipush 1258, 3) := by decide +kernel
theorem dX11_init_26 : decode cX11_init 26 = .ok (.newarray .int, 2) := by decide +kernel
theorem dX11_init_28 : decode cX11_init 28 = .ok (.putfield 20, 3) := by decide +kernel
theorem dX11_init_31 : decode cX11_init 31 = .ok (.aload_n 0, 1) := by decide +kernel
theorem dX11_init_32 : decode cX11_init 32 = .ok (.sipush 409, 3) := by decide +kernel
theorem dX11_init_35 : decode cX11_init 35 = .ok (.newarray .int, 2) := by decide +kernel
theorem dX11_init_37 : decode cX11_init 37 = .ok (.putfield 23, 3) := by decide +kernel
theorem dX11_init_40 : decode cX11_init 40 = .ok (.aload_n 0, 1) := by decide +kernel
theorem dX11_init_41 : decode cX11_init 41 = .ok (.sipush 4908, 3) := by decide +kernel
theorem dX11_init_44 : decode cX11_init 44 = .ok (.newarray .int, 2) := by decide +kernel
theorem dX11_init_46 : decode cX11_init 46 = .ok (.putfield 26, 3) := by decide +kernel
theorem dX11_init_49 : decode cX11_init 49 = .ok (.aload_n 0, 1) := by decide +kernel
theorem dX11_init_50 : decode cX11_init 50 = .ok (.sipush 400, 3) := by decide +kernel
theorem dX11_init_53 : decode cX11_init 53 = .ok (.newarray .byte, 2) := by decide +kernel
theorem dX11_init_55 : decode cX11_init 55 = .ok (.putfield 29, 3) := by decide +kernel
theorem dX11_init_58 : decode cX11_init 58 = .ok (.aload_n 0, 1) := by decide +kernel
theorem dX11_init_59 : decode cX11_init 59 = .ok (.iconst (-1), 1) := by decide +kernel
theorem dX11_init_60 : decode cX11_init 60 = .ok (.putfield 33, 3) := by decide +kernel
theorem dX11_init_63 : decode cX11_init 63 = .ok (.aload_n 0, 1) := by decide +kernel
theorem dX11_init_64 : decode cX11_init 64 = .ok (.iconst 5, 1) := by decide +kernel
theorem dX11_init_65 : decode cX11_init 65 = .ok (.newarray .int, 2) := by decide +kernel
theorem dX11_init_67 : decode cX11_init 67 = .ok (.putfield 36, 3) := by decide +kernel
theorem dX11_init_70 : decode cX11_init 70 = .ok (.aload_n 0, 1) := by decide +kernel
theorem dX11_init_71 : decode cX11_init 71 = .ok (.sipush 400, 3) := by decide +kernel
theorem dX11_init_74 : decode cX11_init 74 = .ok (.newarray .int, 2) := by decide +kernel
theorem dX11_init_76 : decode cX11_init 76 = .ok (.putfield 39, 3) := by decide +kernel
theorem dX11_init_79 : decode cX11_init 79 = .ok (.aload_n 0, 1) := by decide +kernel
theorem dX11_init_80 : decode cX11_init 80 = .ok (.bipush 8, 2) := by decide +kernel
theorem dX11_init_82 : decode cX11_init 82 = .ok (.newarray .int, 2) := by decide +kernel
theorem dX11_init_84 : decode cX11_init 84 = .ok (.putfield 42, 3) := by decide +kernel
theorem dX11_init_87 : decode cX11_init 87 = .ok (.aload_n 0, 1) := by decide +kernel
theorem dX11_init_88 : decode cX11_init 88 = .ok (.sipush 201, 3) := by decide +kernel
theorem dX11_init_91 : decode cX11_init 91 = .ok (.newarray .int, 2) := by decide +kernel
theorem dX11_init_93 : decode cX11_init 93 = .ok (.putfield 45, 3) := by decide +kernel
theorem dX11_init_96 : decode cX11_init 96 = .ok (.aload_n 0, 1) := by decide +kernel
theorem dX11_init_97 : decode cX11_init 97 = .ok (.getfield 13, 3) := by decide +kernel
theorem dX11_init_100 : decode cX11_init 100 = .ok (.bipush 11, 2) := by decide +kernel
theorem dX11_init_102 : decode cX11_init 102 = .ok (.iconst 1, 1) := by decide +kernel
theorem dX11_init_103 : decode cX11_init 103 = .ok (.iastore, 1) := by decide +kernel
theorem dX11_init_104 : decode cX11_init 104 = .ok (.return_, 1) := by decide +kernel
theorem dX11_image_0 : decode cX11_image 0 = .ok (.aload_n 0, 1) := by decide +kernel
theorem dX11_image_1 : decode cX11_image 1 = .ok (.iconst 0, 1) := by decide +kernel
theorem dX11_image_2 : decode cX11_image 2 = .ok (.putfield 3, 3) := by decide +kernel
theorem dX11_image_5 : decode cX11_image 5 = .ok (.iconst 0, 1) := by decide +kernel
theorem dX11_image_6 : decode cX11_image 6 = .ok (.istore_n 1, 1) := by decide +kernel
theorem dX11_image_7 : decode cX11_image 7 = .ok (.iload_n 1, 1) := by decide +kernel
theorem dX11_image_8 : decode cX11_image 8 = .ok (.sipush 1258, 3) := by decide +kernel
theorem dX11_image_11 : decode cX11_image 11 = .ok (.if_icmp .ge 21, 3) := by decide +kernel
theorem dX11_image_14 : decode cX11_image 14 = .ok (.aload_n 0, 1) := by decide +kernel
theorem dX11_image_15 : decode cX11_image 15 = .ok (.getfield 17, 3) := by decide +kernel
theorem dX11_image_18 : decode cX11_image 18 = .ok (.iload_n 1, 1) := by decide +kernel
theorem dX11_image_19 : decode cX11_image 19 = .ok (.aload_n 0, 1) := by decide +kernel
theorem dX11_image_20 : decode cX11_image 20 = .ok (.getfield 13, 3) := by decide +kernel
theorem dX11_image_23 : decode cX11_image 23 = .ok (.iload_n 1, 1) := by decide +kernel
theorem dX11_image_24 : decode cX11_image 24 = .ok (.iaload, 1) := by decide +kernel
theorem dX11_image_25 : decode cX11_image 25 = .ok (.iastore, 1) := by decide +kernel
theorem dX11_image_26 : decode cX11_image 26 = .ok (.iinc 1 1, 3) := by decide +kernel
theorem dX11_image_29 : decode cX11_image 29 = .ok (.goto (-22), 3) := by decide +kernel
theorem dX11_image_32 : decode cX11_image 32 = .ok (.aload_n 0, 1) := by decide +kernel
theorem dX11_image_33 : decode cX11_image 33 = .ok (.iconst 1, 1) := by decide +kernel
theorem dX11_image_34 : decode cX11_image 34 = .ok (.putfield 48, 3) := by decide +kernel
theorem dX11_image_37 : decode cX11_image 37 = .ok (.return_, 1) := by decide +kernel
theorem dX11_back_0 : decode cX11_back 0 = .ok (.aload_n 0, 1) := by decide +kernel
theorem dX11_back_1 : decode cX11_back 1 = .ok (.iconst 0, 1) := by decide +kernel
theorem dX11_back_2 : decode cX11_back 2 = .ok (.putfield 3, 3) := by decide +kernel
theorem dX11_back_5 : decode cX11_back 5 = .ok (.aload_n 0, 1) := by decide +kernel
theorem dX11_back_6 : decode cX11_back 6 = .ok (.getfield 48, 3) := by decide +kernel
theorem dX11_back_9 : decode cX11_back 9 = .ok (.ifCond .ne 5, 3) := by decide +kernel
theorem dX11_back_12 : decode cX11_back 12 = .ok (.iconst 0, 1) := by decide +kernel
theorem dX11_back_13 : decode cX11_back 13 = .ok (.ireturn, 1) := by decide +kernel
theorem dX11_back_14 : decode cX11_back 14 = .ok (.iconst 0, 1) := by decide +kernel
theorem dX11_back_15 : decode cX11_back 15 = .ok (.istore_n 1, 1) := by decide +kernel
theorem dX11_back_16 : decode cX11_back 16 = .ok (.iload_n 1, 1) := by decide +kernel
theorem dX11_back_17 : decode cX11_back 17 = .ok (.sipush 1258, 3) := by decide +kernel
theorem dX11_back_20 : decode cX11_back 20 = .ok (.if_icmp .ge 21, 3) := by decide +kernel
theorem dX11_back_23 : decode cX11_back 23 = .ok (.aload_n 0, 1) := by decide +kernel
theorem dX11_back_24 : decode cX11_back 24 = .ok (.getfield 13, 3) := by decide +kernel
theorem dX11_back_27 : decode cX11_back 27 = .ok (.iload_n 1, 1) := by decide +kernel
theorem dX11_back_28 : decode cX11_back 28 = .ok (.aload_n 0, 1) := by decide +kernel
theorem dX11_back_29 : decode cX11_back 29 = .ok (.getfield 17, 3) := by decide +kernel
theorem dX11_back_32 : decode cX11_back 32 = .ok (.iload_n 1, 1) := by decide +kernel
theorem dX11_back_33 : decode cX11_back 33 = .ok (.iaload, 1) := by decide +kernel
theorem dX11_back_34 : decode cX11_back 34 = .ok (.iastore, 1) := by decide +kernel
theorem dX11_back_35 : decode cX11_back 35 = .ok (.iinc 1 1, 3) := by decide +kernel
theorem dX11_back_38 : decode cX11_back 38 = .ok (.goto (-22), 3) := by decide +kernel
theorem dX11_back_41 : decode cX11_back 41 = .ok (.aload_n 0, 1) := by decide +kernel
theorem dX11_back_42 : decode cX11_back 42 = .ok (.iconst 0, 1) := by decide +kernel
theorem dX11_back_43 : decode cX11_back 43 = .ok (.putfield 52, 3) := by decide +kernel
theorem dX11_back_46 : decode cX11_back 46 = .ok (.iconst 1, 1) := by decide +kernel
theorem dX11_back_47 : decode cX11_back 47 = .ok (.ireturn, 1) := by decide +kernel
theorem dX11_remembers_0 : decode cX11_remembers 0 = .ok (.aload_n 0, 1) := by decide +kernel
theorem dX11_remembers_1 : decode cX11_remembers 1 = .ok (.getfield 52, 3) := by decide +kernel
theorem dX11_remembers_4 : decode cX11_remembers 4 = .ok (.bipush 12, 2) := by decide +kernel
theorem dX11_remembers_6 : decode cX11_remembers 6 = .ok (.if_icmp .ne 37, 3) := by decide +kernel
theorem dX11_remembers_9 : decode cX11_remembers 9 = .ok (.iconst 0, 1) := by decide +kernel
theorem dX11_remembers_10 : decode cX11_remembers 10 = .ok (.istore_n 1, 1) := by decide +kernel
theorem dX11_remembers_11 : decode cX11_remembers 11 = .ok (.iload_n 1, 1) := by decide +kernel
theorem dX11_remembers_12 : decode cX11_remembers 12 = .ok (.sipush 4499, 3) := by decide +kernel
theorem dX11_remembers_15 : decode cX11_remembers 15 = .ok (.if_icmp .ge 25, 3) := by decide +kernel
theorem dX11_remembers_18 : decode cX11_remembers 18 = .ok (.aload_n 0, 1) := by decide +kernel
theorem dX11_remembers_19 : decode cX11_remembers 19 = .ok (.getfield 26, 3) := by decide +kernel
theorem dX11_remembers_22 : decode cX11_remembers 22 = .ok (.iload_n 1, 1) := by decide +kernel
theorem dX11_remembers_23 : decode cX11_remembers 23 = .ok (.aload_n 0, 1) := by decide +kernel
theorem dX11_remembers_24 : decode cX11_remembers 24 = .ok (.getfield 26, 3) := by decide +kernel
theorem dX11_remembers_27 : decode cX11_remembers 27 = .ok (.iload_n 1, 1) := by decide +kernel
theorem dX11_remembers_28 : decode cX11_remembers 28 = .ok (.sipush 409, 3) := by decide +kernel
theorem dX11_remembers_31 : decode cX11_remembers 31 = .ok (.iadd, 1) := by decide +kernel
theorem dX11_remembers_32 : decode cX11_remembers 32 = .ok (.iaload, 1) := by decide +kernel
theorem dX11_remembers_33 : decode cX11_remembers 33 = .ok (.iastore, 1) := by decide +kernel
theorem dX11_remembers_34 : decode cX11_remembers 34 = .ok (.iinc 1 1, 3) := by decide +kernel
theorem dX11_remembers_37 : decode cX11_remembers 37 = .ok (.goto (-26), 3) := by decide +kernel
theorem dX11_remembers_40 : decode cX11_remembers 40 = .ok (.goto 13, 3) := by decide +kernel
theorem dX11_remembers_43 : decode cX11_remembers 43 = .ok (.aload_n 0, 1) := by decide +kernel
theorem dX11_remembers_44 : decode cX11_remembers 44 = .ok (.dup, 1) := by decide +kernel
theorem dX11_remembers_45 : decode cX11_remembers 45 = .ok (.getfield 52, 3) := by decide +kernel
theorem dX11_remembers_48 : decode cX11_remembers 48 = .ok (.iconst 1, 1) := by decide +kernel
theorem dX11_remembers_49 : decode cX11_remembers 49 = .ok (.iadd, 1) := by decide +kernel
theorem dX11_remembers_50 : decode cX11_remembers 50 = .ok (.putfield 52, 3) := by decide +kernel
theorem dX11_remembers_53 : decode cX11_remembers 53 = .ok (.iconst 0, 1) := by decide +kernel
theorem dX11_remembers_54 : decode cX11_remembers 54 = .ok (.istore_n 1, 1) := by decide +kernel
theorem dX11_remembers_55 : decode cX11_remembers 55 = .ok (.iload_n 1, 1) := by decide +kernel
theorem dX11_remembers_56 : decode cX11_remembers 56 = .ok (.sipush 409, 3) := by decide +kernel
theorem dX11_remembers_59 : decode cX11_remembers 59 = .ok (.if_icmp .ge 32, 3) := by decide +kernel
theorem dX11_remembers_62 : decode cX11_remembers 62 = .ok (.aload_n 0, 1) := by decide +kernel
theorem dX11_remembers_63 : decode cX11_remembers 63 = .ok (.getfield 26, 3) := by decide +kernel
theorem dX11_remembers_66 : decode cX11_remembers 66 = .ok (.sipush 409, 3) := by decide +kernel
theorem dX11_remembers_69 : decode cX11_remembers 69 = .ok (.aload_n 0, 1) := by decide +kernel
theorem dX11_remembers_70 : decode cX11_remembers 70 = .ok (.getfield 52, 3) := by decide +kernel
theorem dX11_remembers_73 : decode cX11_remembers 73 = .ok (.iconst 1, 1) := by decide +kernel
theorem dX11_remembers_74 : decode cX11_remembers 74 = .ok (.isub, 1) := by decide +kernel
theorem dX11_remembers_75 : decode cX11_remembers 75 = .ok (.imul, 1) := by decide +kernel
theorem dX11_remembers_76 : decode cX11_remembers 76 = .ok (.iload_n 1, 1) := by decide +kernel
theorem dX11_remembers_77 : decode cX11_remembers 77 = .ok (.iadd, 1) := by decide +kernel
theorem dX11_remembers_78 : decode cX11_remembers 78 = .ok (.aload_n 0, 1) := by decide +kernel
theorem dX11_remembers_79 : decode cX11_remembers 79 = .ok (.getfield 13, 3) := by decide +kernel
theorem dX11_remembers_82 : decode cX11_remembers 82 = .ok (.iload_n 1, 1) := by decide +kernel
theorem dX11_remembers_83 : decode cX11_remembers 83 = .ok (.iaload, 1) := by decide +kernel
theorem dX11_remembers_84 : decode cX11_remembers 84 = .ok (.iastore, 1) := by decide +kernel
theorem dX11_remembers_85 : decode cX11_remembers 85 = .ok (.iinc 1 1, 3) := by decide +kernel
theorem dX11_remembers_88 : decode cX11_remembers 88 = .ok (.goto (-33), 3) := by decide +kernel
theorem dX11_remembers_91 : decode cX11_remembers 91 = .ok (.return_, 1) := by decide +kernel
theorem dX11_undo_0 : decode cX11_undo 0 = .ok (.aload_n 0, 1) := by decide +kernel
theorem dX11_undo_1 : decode cX11_undo 1 = .ok (.iconst 0, 1) := by decide +kernel
theorem dX11_undo_2 : decode cX11_undo 2 = .ok (.putfield 3, 3) := by decide +kernel
theorem dX11_undo_5 : decode cX11_undo 5 = .ok (.aload_n 0, 1) := by decide +kernel
theorem dX11_undo_6 : decode cX11_undo 6 = .ok (.getfield 52, 3) := by decide +kernel
theorem dX11_undo_9 : decode cX11_undo 9 = .ok (.ifCond .ne 5, 3) := by decide +kernel
theorem dX11_undo_12 : decode cX11_undo 12 = .ok (.iconst 0, 1) := by decide +kernel
theorem dX11_undo_13 : decode cX11_undo 13 = .ok (.ireturn, 1) := by decide +kernel
theorem dX11_undo_14 : decode cX11_undo 14 = .ok (.aload_n 0, 1) := by decide +kernel
theorem dX11_undo_15 : decode cX11_undo 15 = .ok (.dup, 1) := by decide +kernel
theorem dX11_undo_16 : decode cX11_undo 16 = .ok (.getfield 52, 3) := by decide +kernel
theorem dX11_undo_19 : decode cX11_undo 19 = .ok (.iconst 1, 1) := by decide +kernel
theorem dX11_undo_20 : decode cX11_undo 20 = .ok (.isub, 1) := by decide +kernel
theorem dX11_undo_21 : decode cX11_undo 21 = .ok (.putfield 52, 3) := by decide +kernel
theorem dX11_undo_24 : decode cX11_undo 24 = .ok (.iconst 0, 1) := by decide +kernel
theorem dX11_undo_25 : decode cX11_undo 25 = .ok (.istore_n 1, 1) := by decide +kernel
theorem dX11_undo_26 : decode cX11_undo 26 = .ok (.iload_n 1, 1) := by decide +kernel
theorem dX11_undo_27 : decode cX11_undo 27 = .ok (.sipush 409, 3) := by decide +kernel
theorem dX11_undo_30 : decode cX11_undo 30 = .ok (.if_icmp .ge 30, 3) := by decide +kernel
theorem dX11_undo_33 : decode cX11_undo 33 = .ok (.aload_n 0, 1) := by decide +kernel
theorem dX11_undo_34 : decode cX11_undo 34 = .ok (.getfield 13, 3) := by decide +kernel
theorem dX11_undo_37 : decode cX11_undo 37 = .ok (.iload_n 1, 1) := by decide +kernel
theorem dX11_undo_38 : decode cX11_undo 38 = .ok (.aload_n 0, 1) := by decide +kernel
theorem dX11_undo_39 : decode cX11_undo 39 = .ok (.getfield 26, 3) := by decide +kernel
theorem dX11_undo_42 : decode cX11_undo 42 = .ok (.sipush 409, 3) := by decide +kernel
theorem dX11_undo_45 : decode cX11_undo 45 = .ok (.aload_n 0, 1) := by decide +kernel
theorem dX11_undo_46 : decode cX11_undo 46 = .ok (.getfield 52, 3) := by decide +kernel
theorem dX11_undo_49 : decode cX11_undo 49 = .ok (.imul, 1) := by decide +kernel
theorem dX11_undo_50 : decode cX11_undo 50 = .ok (.iload_n 1, 1) := by decide +kernel
theorem dX11_undo_51 : decode cX11_undo 51 = .ok (.iadd, 1) := by decide +kernel
theorem dX11_undo_52 : decode cX11_undo 52 = .ok (.iaload, 1) := by decide +kernel
theorem dX11_undo_53 : decode cX11_undo 53 = .ok (.iastore, 1) := by decide +kernel
theorem dX11_undo_54 : decode cX11_undo 54 = .ok (.iinc 1 1, 3) := by decide +kernel
theorem dX11_undo_57 : decode cX11_undo 57 = .ok (.goto (-31), 3) := by decide +kernel
theorem dX11_undo_60 : decode cX11_undo 60 = .ok (.iconst 1, 1) := by decide +kernel
theorem dX11_undo_61 : decode cX11_undo 61 = .ok (.ireturn, 1) := by decide +kernel
theorem dX11_diners_0 : decode cX11_diners 0 = .ok (.aload_n 0, 1) := by decide +kernel
theorem dX11_diners_1 : decode cX11_diners 1 = .ok (.getfield 13, 3) := by decide +kernel
theorem dX11_diners_4 : decode cX11_diners 4 = .ok (.iconst 0, 1) := by decide +kernel
theorem dX11_diners_5 : decode cX11_diners 5 = .ok (.iaload, 1) := by decide +kernel
theorem dX11_diners_6 : decode cX11_diners 6 = .ok (.ireturn, 1) := by decide +kernel
theorem dX11_cellars_0 : decode cX11_cellars 0 = .ok (.aload_n 0, 1) := by decide +kernel
theorem dX11_cellars_1 : decode cX11_cellars 1 = .ok (.getfield 13, 3) := by decide +kernel
theorem dX11_cellars_4 : decode cX11_cellars 4 = .ok (.iconst 1, 1) := by decide +kernel
theorem dX11_cellars_5 : decode cX11_cellars 5 = .ok (.iaload, 1) := by decide +kernel
theorem dX11_cellars_6 : decode cX11_cellars 6 = .ok (.ireturn, 1) := by decide +kernel
theorem dX11_dinerAt_0 : decode cX11_dinerAt 0 = .ok (.bipush 12, 2) := by decide +kernel
theorem dX11_dinerAt_2 : decode cX11_dinerAt 2 = .ok (.bipush 9, 2) := by decide +kernel
theorem dX11_dinerAt_4 : decode cX11_dinerAt 4 = .ok (.iload_n 0, 1) := by decide +kernel
theorem dX11_dinerAt_5 : decode cX11_dinerAt 5 = .ok (.imul, 1) := by decide +kernel
theorem dX11_dinerAt_6 : decode cX11_dinerAt 6 = .ok (.iadd, 1) := by decide +kernel
theorem dX11_dinerAt_7 : decode cX11_dinerAt 7 = .ok (.iload_n 1, 1) := by decide +kernel
theorem dX11_dinerAt_8 : decode cX11_dinerAt 8 = .ok (.iadd, 1) := by decide +kernel
theorem dX11_dinerAt_9 : decode cX11_dinerAt 9 = .ok (.ireturn, 1) := by decide +kernel
theorem dX11_of_0 : decode cX11_of 0 = .ok (.aload_n 0, 1) := by decide +kernel
theorem dX11_of_1 : decode cX11_of 1 = .ok (.getfield 13, 3) := by decide +kernel
theorem dX11_of_4 : decode cX11_of 4 = .ok (.iload_n 1, 1) := by decide +kernel
theorem dX11_of_5 : decode cX11_of 5 = .ok (.iload_n 2, 1) := by decide +kernel
theorem dX11_of_6 : decode cX11_of 6 = .ok (.invokestatic 55, 3) := by decide +kernel
theorem dX11_of_9 : decode cX11_of 9 = .ok (.iaload, 1) := by decide +kernel
theorem dX11_of_10 : decode cX11_of 10 = .ok (.ireturn, 1) := by decide +kernel
theorem dX11_onDiet_0 : decode cX11_onDiet 0 = .ok (.aload_n 0, 1) := by decide +kernel
theorem dX11_onDiet_1 : decode cX11_onDiet 1 = .ok (.iload_n 1, 1) := by decide +kernel
theorem dX11_onDiet_2 : decode cX11_onDiet 2 = .ok (.iconst 2, 1) := by decide +kernel
theorem dX11_onDiet_3 : decode cX11_onDiet 3 = .ok (.invokevirtual 59, 3) := by decide +kernel
theorem dX11_onDiet_6 : decode cX11_onDiet 6 = .ok (.iconst 1, 1) := by decide +kernel
theorem dX11_onDiet_7 : decode cX11_onDiet 7 = .ok (.if_icmp .ne 7, 3) := by decide +kernel
theorem dX11_onDiet_10 : decode cX11_onDiet 10 = .ok (.iconst 1, 1) := by decide +kernel
theorem dX11_onDiet_11 : decode cX11_onDiet 11 = .ok (.goto 4, 3) := by decide +kernel
theorem dX11_onDiet_14 : decode cX11_onDiet 14 = .ok (.iconst 0, 1) := by decide +kernel
theorem dX11_onDiet_15 : decode cX11_onDiet 15 = .ok (.ireturn, 1) := by decide +kernel
theorem dX11_cellarAt_0 : decode cX11_cellarAt 0 = .ok (.bipush 84, 2) := by decide +kernel
theorem dX11_cellarAt_2 : decode cX11_cellarAt 2 = .ok (.iconst 5, 1) := by decide +kernel
theorem dX11_cellarAt_3 : decode cX11_cellarAt 3 = .ok (.iload_n 0, 1) := by decide +kernel
theorem dX11_cellarAt_4 : decode cX11_cellarAt 4 = .ok (.imul, 1) := by decide +kernel
theorem dX11_cellarAt_5 : decode cX11_cellarAt 5 = .ok (.iadd, 1) := by decide +kernel
theorem dX11_cellarAt_6 : decode cX11_cellarAt 6 = .ok (.iload_n 1, 1) := by decide +kernel
theorem dX11_cellarAt_7 : decode cX11_cellarAt 7 = .ok (.iadd, 1) := by decide +kernel
theorem dX11_cellarAt_8 : decode cX11_cellarAt 8 = .ok (.ireturn, 1) := by decide +kernel
theorem dX11_ofCellar_0 : decode cX11_ofCellar 0 = .ok (.aload_n 0, 1) := by decide +kernel
theorem dX11_ofCellar_1 : decode cX11_ofCellar 1 = .ok (.getfield 13, 3) := by decide +kernel
theorem dX11_ofCellar_4 : decode cX11_ofCellar 4 = .ok (.iload_n 1, 1) := by decide +kernel
theorem dX11_ofCellar_5 : decode cX11_ofCellar 5 = .ok (.iload_n 2, 1) := by decide +kernel
theorem dX11_ofCellar_6 : decode cX11_ofCellar 6 = .ok (.invokestatic 62, 3) := by decide +kernel
theorem dX11_ofCellar_9 : decode cX11_ofCellar 9 = .ok (.iaload, 1) := by decide +kernel
theorem dX11_ofCellar_10 : decode cX11_ofCellar 10 = .ok (.ireturn, 1) := by decide +kernel
theorem dX11_isFree_0 : decode cX11_isFree 0 = .ok (.aload_n 0, 1) := by decide +kernel
theorem dX11_isFree_1 : decode cX11_isFree 1 = .ok (.iload_n 1, 1) := by decide +kernel
theorem dX11_isFree_2 : decode cX11_isFree 2 = .ok (.iconst 2, 1) := by decide +kernel
theorem dX11_isFree_3 : decode cX11_isFree 3 = .ok (.invokevirtual 65, 3) := by decide +kernel
theorem dX11_isFree_6 : decode cX11_isFree 6 = .ok (.ifCond .ne 7, 3) := by decide +kernel
theorem dX11_isFree_9 : decode cX11_isFree 9 = .ok (.iconst 1, 1) := by decide +kernel
theorem dX11_isFree_10 : decode cX11_isFree 10 = .ok (.goto 4, 3) := by decide +kernel
theorem dX11_isFree_13 : decode cX11_isFree 13 = .ok (.iconst 0, 1) := by decide +kernel
theorem dX11_isFree_14 : decode cX11_isFree 14 = .ok (.ireturn, 1) := by decide +kernel
theorem dX11_noDiner_0 : decode cX11_noDiner 0 = .ok (.iload_n 1, 1) := by decide +kernel
theorem dX11_noDiner_1 : decode cX11_noDiner 1 = .ok (.iconst 0, 1) := by decide +kernel
theorem dX11_noDiner_2 : decode cX11_noDiner 2 = .ok (.aload_n 0, 1) := by decide +kernel
theorem dX11_noDiner_3 : decode cX11_noDiner 3 = .ok (.invokevirtual 68, 3) := by decide +kernel
theorem dX11_noDiner_6 : decode cX11_noDiner 6 = .ok (.iconst 1, 1) := by decide +kernel
theorem dX11_noDiner_7 : decode cX11_noDiner 7 = .ok (.isub, 1) := by decide +kernel
theorem dX11_noDiner_8 : decode cX11_noDiner 8 = .ok (.invokestatic 72, 3) := by decide +kernel
theorem dX11_noDiner_11 : decode cX11_noDiner 11 = .ok (.ifCond .ne 7, 3) := by decide +kernel
theorem dX11_noDiner_14 : decode cX11_noDiner 14 = .ok (.iconst 1, 1) := by decide +kernel
theorem dX11_noDiner_15 : decode cX11_noDiner 15 = .ok (.goto 4, 3) := by decide +kernel
theorem dX11_noDiner_18 : decode cX11_noDiner 18 = .ok (.iconst 0, 1) := by decide +kernel
theorem dX11_noDiner_19 : decode cX11_noDiner 19 = .ok (.ireturn, 1) := by decide +kernel
theorem dX11_noCellar_0 : decode cX11_noCellar 0 = .ok (.iload_n 1, 1) := by decide +kernel
theorem dX11_noCellar_1 : decode cX11_noCellar 1 = .ok (.iconst 0, 1) := by decide +kernel
theorem dX11_noCellar_2 : decode cX11_noCellar 2 = .ok (.aload_n 0, 1) := by decide +kernel
theorem dX11_noCellar_3 : decode cX11_noCellar 3 = .ok (.invokevirtual 76, 3) := by decide +kernel
theorem dX11_noCellar_6 : decode cX11_noCellar 6 = .ok (.iconst 1, 1) := by decide +kernel
theorem dX11_noCellar_7 : decode cX11_noCellar 7 = .ok (.isub, 1) := by decide +kernel
theorem dX11_noCellar_8 : decode cX11_noCellar 8 = .ok (.invokestatic 72, 3) := by decide +kernel
theorem dX11_noCellar_11 : decode cX11_noCellar 11 = .ok (.ifCond .ne 7, 3) := by decide +kernel
theorem dX11_noCellar_14 : decode cX11_noCellar 14 = .ok (.iconst 1, 1) := by decide +kernel
theorem dX11_noCellar_15 : decode cX11_noCellar 15 = .ok (.goto 4, 3) := by decide +kernel
theorem dX11_noCellar_18 : decode cX11_noCellar 18 = .ok (.iconst 0, 1) := by decide +kernel
theorem dX11_noCellar_19 : decode cX11_noCellar 19 = .ok (.ireturn, 1) := by decide +kernel
theorem dX11_noSeat_0 : decode cX11_noSeat 0 = .ok (.iload_n 0, 1) := by decide +kernel
theorem dX11_noSeat_1 : decode cX11_noSeat 1 = .ok (.iconst 0, 1) := by decide +kernel
theorem dX11_noSeat_2 : decode cX11_noSeat 2 = .ok (.bipush 9, 2) := by decide +kernel
theorem dX11_noSeat_4 : decode cX11_noSeat 4 = .ok (.invokestatic 72, 3) := by decide +kernel
theorem dX11_noSeat_7 : decode cX11_noSeat 7 = .ok (.ifCond .ne 7, 3) := by decide +kernel
theorem dX11_noSeat_10 : decode cX11_noSeat 10 = .ok (.iconst 1, 1) := by decide +kernel
theorem dX11_noSeat_11 : decode cX11_noSeat 11 = .ok (.goto 4, 3) := by decide +kernel
theorem dX11_noSeat_14 : decode cX11_noSeat 14 = .ok (.iconst 0, 1) := by decide +kernel
theorem dX11_noSeat_15 : decode cX11_noSeat 15 = .ok (.ireturn, 1) := by decide +kernel
theorem dX11_noTrait_0 : decode cX11_noTrait 0 = .ok (.iload_n 0, 1) := by decide +kernel
theorem dX11_noTrait_1 : decode cX11_noTrait 1 = .ok (.iconst 0, 1) := by decide +kernel
theorem dX11_noTrait_2 : decode cX11_noTrait 2 = .ok (.iconst 5, 1) := by decide +kernel
theorem dX11_noTrait_3 : decode cX11_noTrait 3 = .ok (.invokestatic 72, 3) := by decide +kernel
theorem dX11_noTrait_6 : decode cX11_noTrait 6 = .ok (.ifCond .ne 7, 3) := by decide +kernel
theorem dX11_noTrait_9 : decode cX11_noTrait 9 = .ok (.iconst 1, 1) := by decide +kernel
theorem dX11_noTrait_10 : decode cX11_noTrait 10 = .ok (.goto 4, 3) := by decide +kernel
theorem dX11_noTrait_13 : decode cX11_noTrait 13 = .ok (.iconst 0, 1) := by decide +kernel
theorem dX11_noTrait_14 : decode cX11_noTrait 14 = .ok (.ireturn, 1) := by decide +kernel
theorem dX11_dinerIn_0 : decode cX11_dinerIn 0 = .ok (.iconst 0, 1) := by decide +kernel
theorem dX11_dinerIn_1 : decode cX11_dinerIn 1 = .ok (.istore_n 2, 1) := by decide +kernel
theorem dX11_dinerIn_2 : decode cX11_dinerIn 2 = .ok (.iload_n 2, 1) := by decide +kernel
theorem dX11_dinerIn_3 : decode cX11_dinerIn 3 = .ok (.aload_n 0, 1) := by decide +kernel
theorem dX11_dinerIn_4 : decode cX11_dinerIn 4 = .ok (.invokevirtual 68, 3) := by decide +kernel
theorem dX11_dinerIn_7 : decode cX11_dinerIn 7 = .ok (.if_icmp .ge 21, 3) := by decide +kernel
theorem dX11_dinerIn_10 : decode cX11_dinerIn 10 = .ok (.aload_n 0, 1) := by decide +kernel
theorem dX11_dinerIn_11 : decode cX11_dinerIn 11 = .ok (.iload_n 2, 1) := by decide +kernel
theorem dX11_dinerIn_12 : decode cX11_dinerIn 12 = .ok (.iconst 0, 1) := by decide +kernel
theorem dX11_dinerIn_13 : decode cX11_dinerIn 13 = .ok (.invokevirtual 59, 3) := by decide +kernel
theorem dX11_dinerIn_16 : decode cX11_dinerIn 16 = .ok (.iload_n 1, 1) := by decide +kernel
theorem dX11_dinerIn_17 : decode cX11_dinerIn 17 = .ok (.if_icmp .ne 5, 3) := by decide +kernel
theorem dX11_dinerIn_20 : decode cX11_dinerIn 20 = .ok (.iload_n 2, 1) := by decide +kernel
theorem dX11_dinerIn_21 : decode cX11_dinerIn 21 = .ok (.ireturn, 1) := by decide +kernel
theorem dX11_dinerIn_22 : decode cX11_dinerIn 22 = .ok (.iinc 2 1, 3) := by decide +kernel
theorem dX11_dinerIn_25 : decode cX11_dinerIn 25 = .ok (.goto (-23), 3) := by decide +kernel
theorem dX11_dinerIn_28 : decode cX11_dinerIn 28 = .ok (.iconst (-1), 1) := by decide +kernel
theorem dX11_dinerIn_29 : decode cX11_dinerIn 29 = .ok (.ireturn, 1) := by decide +kernel
theorem dX11_eaterOf_0 : decode cX11_eaterOf 0 = .ok (.aload_n 0, 1) := by decide +kernel
theorem dX11_eaterOf_1 : decode cX11_eaterOf 1 = .ok (.aload_n 0, 1) := by decide +kernel
theorem dX11_eaterOf_2 : decode cX11_eaterOf 2 = .ok (.iload_n 1, 1) := by decide +kernel
theorem dX11_eaterOf_3 : decode cX11_eaterOf 3 = .ok (.iconst 0, 1) := by decide +kernel
theorem dX11_eaterOf_4 : decode cX11_eaterOf 4 = .ok (.invokevirtual 65, 3) := by decide +kernel
theorem dX11_eaterOf_7 : decode cX11_eaterOf 7 = .ok (.invokevirtual 79, 3) := by decide +kernel
theorem dX11_eaterOf_10 : decode cX11_eaterOf 10 = .ok (.ireturn, 1) := by decide +kernel
theorem dX11_isSweet_0 : decode cX11_isSweet 0 = .ok (.aload_n 0, 1) := by decide +kernel
theorem dX11_isSweet_1 : decode cX11_isSweet 1 = .ok (.getfield 13, 3) := by decide +kernel
theorem dX11_isSweet_4 : decode cX11_isSweet 4 = .ok (.bipush 6, 2) := by decide +kernel
theorem dX11_isSweet_6 : decode cX11_isSweet 6 = .ok (.iaload, 1) := by decide +kernel
theorem dX11_isSweet_7 : decode cX11_isSweet 7 = .ok (.aload_n 0, 1) := by decide +kernel
theorem dX11_isSweet_8 : decode cX11_isSweet 8 = .ok (.getfield 13, 3) := by decide +kernel
theorem dX11_isSweet_11 : decode cX11_isSweet 11 = .ok (.iconst 4, 1) := by decide +kernel
theorem dX11_isSweet_12 : decode cX11_isSweet 12 = .ok (.iaload, 1) := by decide +kernel
theorem dX11_isSweet_13 : decode cX11_isSweet 13 = .ok (.invokestatic 83, 3) := by decide +kernel
theorem dX11_isSweet_16 : decode cX11_isSweet 16 = .ok (.ireturn, 1) := by decide +kernel
theorem dX11_drawn_0 : decode cX11_drawn 0 = .ok (.aload_n 0, 1) := by decide +kernel
theorem dX11_drawn_1 : decode cX11_drawn 1 = .ok (.getfield 13, 3) := by decide +kernel
theorem dX11_drawn_4 : decode cX11_drawn 4 = .ok (.bipush 11, 2) := by decide +kernel
theorem dX11_drawn_6 : decode cX11_drawn 6 = .ok (.ldc 87, 2) := by decide +kernel
theorem dX11_drawn_8 : decode cX11_drawn 8 = .ok (.aload_n 0, 1) := by decide +kernel
theorem dX11_drawn_9 : decode cX11_drawn 9 = .ok (.getfield 13, 3) := by decide +kernel
theorem dX11_drawn_12 : decode cX11_drawn 12 = .ok (.bipush 11, 2) := by decide +kernel
theorem dX11_drawn_14 : decode cX11_drawn 14 = .ok (.iaload, 1) := by decide +kernel
theorem dX11_drawn_15 : decode cX11_drawn 15 = .ok (.imul, 1) := by decide +kernel
theorem dX11_drawn_16 : decode cX11_drawn 16 = .ok (.sipush 12345, 3) := by decide +kernel
theorem dX11_drawn_19 : decode cX11_drawn 19 = .ok (.iadd, 1) := by decide +kernel
theorem dX11_drawn_20 : decode cX11_drawn 20 = .ok (.iastore, 1) := by decide +kernel
theorem dX11_drawn_21 : decode cX11_drawn 21 = .ok (.aload_n 0, 1) := by decide +kernel
theorem dX11_drawn_22 : decode cX11_drawn 22 = .ok (.getfield 13, 3) := by decide +kernel
theorem dX11_drawn_25 : decode cX11_drawn 25 = .ok (.bipush 11, 2) := by decide +kernel
theorem dX11_drawn_27 : decode cX11_drawn 27 = .ok (.iaload, 1) := by decide +kernel
theorem dX11_drawn_28 : decode cX11_drawn 28 = .ok (.bipush 16, 2) := by decide +kernel
theorem dX11_drawn_30 : decode cX11_drawn 30 = .ok (.ishr, 1) := by decide +kernel
theorem dX11_drawn_31 : decode cX11_drawn 31 = .ok (.sipush 32767, 3) := by decide +kernel
theorem dX11_drawn_34 : decode cX11_drawn 34 = .ok (.iand, 1) := by decide +kernel
theorem dX11_drawn_35 : decode cX11_drawn 35 = .ok (.iload_n 1, 1) := by decide +kernel
theorem dX11_drawn_36 : decode cX11_drawn 36 = .ok (.irem, 1) := by decide +kernel
theorem dX11_drawn_37 : decode cX11_drawn 37 = .ok (.ireturn, 1) := by decide +kernel
theorem dX11_feed_0 : decode cX11_feed 0 = .ok (.aload_n 0, 1) := by decide +kernel
theorem dX11_feed_1 : decode cX11_feed 1 = .ok (.iconst 0, 1) := by decide +kernel
theorem dX11_feed_2 : decode cX11_feed 2 = .ok (.putfield 3, 3) := by decide +kernel
theorem dX11_feed_5 : decode cX11_feed 5 = .ok (.aload_n 0, 1) := by decide +kernel
theorem dX11_feed_6 : decode cX11_feed 6 = .ok (.getfield 88, 3) := by decide +kernel
theorem dX11_feed_9 : decode cX11_feed 9 = .ok (.bipush 20, 2) := by decide +kernel
theorem dX11_feed_11 : decode cX11_feed 11 = .ok (.iadd, 1) := by decide +kernel
theorem dX11_feed_12 : decode cX11_feed 12 = .ok (.sipush 400, 3) := by decide +kernel
theorem dX11_feed_15 : decode cX11_feed 15 = .ok (.if_icmp .le 5, 3) := by decide +kernel
theorem dX11_feed_18 : decode cX11_feed 18 = .ok (.iconst (-1), 1) := by decide +kernel
theorem dX11_feed_19 : decode cX11_feed 19 = .ok (.ireturn, 1) := by decide +kernel
theorem dX11_feed_20 : decode cX11_feed 20 = .ok (.aload_n 0, 1) := by decide +kernel
theorem dX11_feed_21 : decode cX11_feed 21 = .ok (.getfield 36, 3) := by decide +kernel
theorem dX11_feed_24 : decode cX11_feed 24 = .ok (.iconst 0, 1) := by decide +kernel
theorem dX11_feed_25 : decode cX11_feed 25 = .ok (.iload_n 1, 1) := by decide +kernel
theorem dX11_feed_26 : decode cX11_feed 26 = .ok (.iastore, 1) := by decide +kernel
theorem dX11_feed_27 : decode cX11_feed 27 = .ok (.aload_n 0, 1) := by decide +kernel
theorem dX11_feed_28 : decode cX11_feed 28 = .ok (.getfield 36, 3) := by decide +kernel
theorem dX11_feed_31 : decode cX11_feed 31 = .ok (.iconst 1, 1) := by decide +kernel
theorem dX11_feed_32 : decode cX11_feed 32 = .ok (.iload_n 2, 1) := by decide +kernel
theorem dX11_feed_33 : decode cX11_feed 33 = .ok (.iastore, 1) := by decide +kernel
theorem dX11_feed_34 : decode cX11_feed 34 = .ok (.aload_n 0, 1) := by decide +kernel
theorem dX11_feed_35 : decode cX11_feed 35 = .ok (.getfield 36, 3) := by decide +kernel
theorem dX11_feed_38 : decode cX11_feed 38 = .ok (.iconst 2, 1) := by decide +kernel
theorem dX11_feed_39 : decode cX11_feed 39 = .ok (.iload_n 3, 1) := by decide +kernel
theorem dX11_feed_40 : decode cX11_feed 40 = .ok (.iastore, 1) := by decide +kernel
theorem dX11_feed_41 : decode cX11_feed 41 = .ok (.aload_n 0, 1) := by decide +kernel
theorem dX11_feed_42 : decode cX11_feed 42 = .ok (.getfield 36, 3) := by decide +kernel
theorem dX11_feed_45 : decode cX11_feed 45 = .ok (.iconst 3, 1) := by decide +kernel
theorem dX11_feed_46 : decode cX11_feed 46 = .ok (.iload 4, 2) := by decide +kernel
theorem dX11_feed_48 : decode cX11_feed 48 = .ok (.iastore, 1) := by decide +kernel
theorem dX11_feed_49 : decode cX11_feed 49 = .ok (.aload_n 0, 1) := by decide +kernel
theorem dX11_feed_50 : decode cX11_feed 50 = .ok (.getfield 36, 3) := by decide +kernel
theorem dX11_feed_53 : decode cX11_feed 53 = .ok (.iconst 4, 1) := by decide +kernel
theorem dX11_feed_54 : decode cX11_feed 54 = .ok (.iload 5, 2) := by decide +kernel
theorem dX11_feed_56 : decode cX11_feed 56 = .ok (.iastore, 1) := by decide +kernel
theorem dX11_feed_57 : decode cX11_feed 57 = .ok (.iconst 0, 1) := by decide +kernel
theorem dX11_feed_58 : decode cX11_feed 58 = .ok (.istore 6, 2) := by decide +kernel
theorem dX11_feed_60 : decode cX11_feed 60 = .ok (.iload 6, 2) := by decide +kernel
theorem dX11_feed_62 : decode cX11_feed 62 = .ok (.bipush 20, 2) := by decide +kernel
theorem dX11_feed_64 : decode cX11_feed 64 = .ok (.if_icmp .ge 42, 3) := by decide +kernel
theorem dX11_feed_67 : decode cX11_feed 67 = .ok (.aload_n 0, 1) := by decide +kernel
theorem dX11_feed_68 : decode cX11_feed 68 = .ok (.getfield 29, 3) := by decide +kernel
theorem dX11_feed_71 : decode cX11_feed 71 = .ok (.aload_n 0, 1) := by decide +kernel
theorem dX11_feed_72 : decode cX11_feed 72 = .ok (.getfield 88, 3) := by decide +kernel
theorem dX11_feed_75 : decode cX11_feed 75 = .ok (.iload 6, 2) := by decide +kernel
theorem dX11_feed_77 : decode cX11_feed 77 = .ok (.iadd, 1) := by decide +kernel
theorem dX11_feed_78 : decode cX11_feed 78 = .ok (.aload_n 0, 1) := by decide +kernel
theorem dX11_feed_79 : decode cX11_feed 79 = .ok (.getfield 36, 3) := by decide +kernel
theorem dX11_feed_82 : decode cX11_feed 82 = .ok (.iload 6, 2) := by decide +kernel
theorem dX11_feed_84 : decode cX11_feed 84 = .ok (.iconst 4, 1) := by decide +kernel
theorem dX11_feed_85 : decode cX11_feed 85 = .ok (.idiv, 1) := by decide +kernel
theorem dX11_feed_86 : decode cX11_feed 86 = .ok (.iaload, 1) := by decide +kernel
theorem dX11_feed_87 : decode cX11_feed 87 = .ok (.bipush 24, 2) := by decide +kernel
theorem dX11_feed_89 : decode cX11_feed 89 = .ok (.bipush 8, 2) := by decide +kernel
theorem dX11_feed_91 : decode cX11_feed 91 = .ok (.iload 6, 2) := by decide +kernel
theorem dX11_feed_93 : decode cX11_feed 93 = .ok (.iconst 4, 1) := by decide +kernel
theorem dX11_feed_94 : decode cX11_feed 94 = .ok (.irem, 1) := by decide +kernel
theorem dX11_feed_95 : decode cX11_feed 95 = .ok (.imul, 1) := by decide +kernel
theorem dX11_feed_96 : decode cX11_feed 96 = .ok (.isub, 1) := by decide +kernel
theorem dX11_feed_97 : decode cX11_feed 97 = .ok (.ishr, 1) := by decide +kernel
theorem dX11_feed_98 : decode cX11_feed 98 = .ok (.i2b, 1) := by decide +kernel
theorem dX11_feed_99 : decode cX11_feed 99 = .ok (.bastore, 1) := by decide +kernel
theorem dX11_feed_100 : decode cX11_feed 100 = .ok (.iinc 6 1, 3) := by decide +kernel
theorem dX11_feed_103 : decode cX11_feed 103 = .ok (.goto (-43), 3) := by decide +kernel
theorem dX11_feed_106 : decode cX11_feed 106 = .ok (.aload_n 0, 1) := by decide +kernel
theorem dX11_feed_107 : decode cX11_feed 107 = .ok (.dup, 1) := by decide +kernel
theorem dX11_feed_108 : decode cX11_feed 108 = .ok (.getfield 88, 3) := by decide +kernel
theorem dX11_feed_111 : decode cX11_feed 111 = .ok (.bipush 20, 2) := by decide +kernel
theorem dX11_feed_113 : decode cX11_feed 113 = .ok (.iadd, 1) := by decide +kernel
theorem dX11_feed_114 : decode cX11_feed 114 = .ok (.putfield 88, 3) := by decide +kernel
theorem dX11_feed_117 : decode cX11_feed 117 = .ok (.aload_n 0, 1) := by decide +kernel
theorem dX11_feed_118 : decode cX11_feed 118 = .ok (.getfield 88, 3) := by decide +kernel
theorem dX11_feed_121 : decode cX11_feed 121 = .ok (.ireturn, 1) := by decide +kernel
theorem dX11_end_0 : decode cX11_end 0 = .ok (.aload_n 0, 1) := by decide +kernel
theorem dX11_end_1 : decode cX11_end 1 = .ok (.iconst 0, 1) := by decide +kernel
theorem dX11_end_2 : decode cX11_end 2 = .ok (.putfield 3, 3) := by decide +kernel
theorem dX11_end_5 : decode cX11_end 5 = .ok (.iload_n 1, 1) := by decide +kernel
theorem dX11_end_6 : decode cX11_end 6 = .ok (.ifCond .lt 11, 3) := by decide +kernel
theorem dX11_end_9 : decode cX11_end 9 = .ok (.iload_n 1, 1) := by decide +kernel
theorem dX11_end_10 : decode cX11_end 10 = .ok (.aload_n 0, 1) := by decide +kernel
theorem dX11_end_11 : decode cX11_end 11 = .ok (.getfield 88, 3) := by decide +kernel
theorem dX11_end_14 : decode cX11_end 14 = .ok (.if_icmp .le 5, 3) := by decide +kernel
theorem dX11_end_17 : decode cX11_end 17 = .ok (.iconst 0, 1) := by decide +kernel
theorem dX11_end_18 : decode cX11_end 18 = .ok (.ireturn, 1) := by decide +kernel
theorem dX11_end_19 : decode cX11_end 19 = .ok (.aload_n 0, 1) := by decide +kernel
theorem dX11_end_20 : decode cX11_end 20 = .ok (.iload_n 1, 1) := by decide +kernel
theorem dX11_end_21 : decode cX11_end 21 = .ok (.putfield 88, 3) := by decide +kernel
theorem dX11_end_24 : decode cX11_end 24 = .ok (.iconst 1, 1) := by decide +kernel
theorem dX11_end_25 : decode cX11_end 25 = .ok (.ireturn, 1) := by decide +kernel
theorem dX11_isAt_0 : decode cX11_isAt 0 = .ok (.aload_n 0, 1) := by decide +kernel
theorem dX11_isAt_1 : decode cX11_isAt 1 = .ok (.getfield 91, 3) := by decide +kernel
theorem dX11_isAt_4 : decode cX11_isAt 4 = .ok (.aload_n 0, 1) := by decide +kernel
theorem dX11_isAt_5 : decode cX11_isAt 5 = .ok (.getfield 94, 3) := by decide +kernel
theorem dX11_isAt_8 : decode cX11_isAt 8 = .ok (.if_icmp .ge 33, 3) := by decide +kernel
theorem dX11_isAt_11 : decode cX11_isAt 11 = .ok (.aload_n 0, 1) := by decide +kernel
theorem dX11_isAt_12 : decode cX11_isAt 12 = .ok (.getfield 29, 3) := by decide +kernel
theorem dX11_isAt_15 : decode cX11_isAt 15 = .ok (.aload_n 0, 1) := by decide +kernel
theorem dX11_isAt_16 : decode cX11_isAt 16 = .ok (.getfield 91, 3) := by decide +kernel
theorem dX11_isAt_19 : decode cX11_isAt 19 = .ok (.baload, 1) := by decide +kernel
theorem dX11_isAt_20 : decode cX11_isAt 20 = .ok (.iload_n 1, 1) := by decide +kernel
theorem dX11_isAt_21 : decode cX11_isAt 21 = .ok (.if_icmp .lt 20, 3) := by decide +kernel
theorem dX11_isAt_24 : decode cX11_isAt 24 = .ok (.aload_n 0, 1) := by decide +kernel
theorem dX11_isAt_25 : decode cX11_isAt 25 = .ok (.getfield 29, 3) := by decide +kernel
theorem dX11_isAt_28 : decode cX11_isAt 28 = .ok (.aload_n 0, 1) := by decide +kernel
theorem dX11_isAt_29 : decode cX11_isAt 29 = .ok (.getfield 91, 3) := by decide +kernel
theorem dX11_isAt_32 : decode cX11_isAt 32 = .ok (.baload, 1) := by decide +kernel
theorem dX11_isAt_33 : decode cX11_isAt 33 = .ok (.iload_n 2, 1) := by decide +kernel
theorem dX11_isAt_34 : decode cX11_isAt 34 = .ok (.if_icmp .gt 7, 3) := by decide +kernel
theorem dX11_isAt_37 : decode cX11_isAt 37 = .ok (.iconst 1, 1) := by decide +kernel
theorem dX11_isAt_38 : decode cX11_isAt 38 = .ok (.goto 4, 3) := by decide +kernel
theorem dX11_isAt_41 : decode cX11_isAt 41 = .ok (.iconst 0, 1) := by decide +kernel
theorem dX11_isAt_42 : decode cX11_isAt 42 = .ok (.ireturn, 1) := by decide +kernel
theorem dX11_blanks_0 : decode cX11_blanks 0 = .ok (.aload_n 0, 1) := by decide +kernel
theorem dX11_blanks_1 : decode cX11_blanks 1 = .ok (.bipush 32, 2) := by decide +kernel
theorem dX11_blanks_3 : decode cX11_blanks 3 = .ok (.bipush 32, 2) := by decide +kernel
theorem dX11_blanks_5 : decode cX11_blanks 5 = .ok (.invokevirtual 97, 3) := by decide +kernel
theorem dX11_blanks_8 : decode cX11_blanks 8 = .ok (.ifCond .eq 16, 3) := by decide +kernel
theorem dX11_blanks_11 : decode cX11_blanks 11 = .ok (.aload_n 0, 1) := by decide +kernel
theorem dX11_blanks_12 : decode cX11_blanks 12 = .ok (.dup, 1) := by decide +kernel
theorem dX11_blanks_13 : decode cX11_blanks 13 = .ok (.getfield 91, 3) := by decide +kernel
theorem dX11_blanks_16 : decode cX11_blanks 16 = .ok (.iconst 1, 1) := by decide +kernel
theorem dX11_blanks_17 : decode cX11_blanks 17 = .ok (.iadd, 1) := by decide +kernel
theorem dX11_blanks_18 : decode cX11_blanks 18 = .ok (.putfield 91, 3) := by decide +kernel
theorem dX11_blanks_21 : decode cX11_blanks 21 = .ok (.goto (-21), 3) := by decide +kernel
theorem dX11_blanks_24 : decode cX11_blanks 24 = .ok (.aload_n 0, 1) := by decide +kernel
theorem dX11_blanks_25 : decode cX11_blanks 25 = .ok (.aload_n 0, 1) := by decide +kernel
theorem dX11_blanks_26 : decode cX11_blanks 26 = .ok (.getfield 91, 3) := by decide +kernel
theorem dX11_blanks_29 : decode cX11_blanks 29 = .ok (.putfield 100, 3) := by decide +kernel
theorem dX11_blanks_32 : decode cX11_blanks 32 = .ok (.return_, 1) := by decide +kernel
theorem dX11_letters_0 : decode cX11_letters 0 = .ok (.aload_n 0, 1) := by decide +kernel
theorem dX11_letters_1 : decode cX11_letters 1 = .ok (.invokevirtual 103, 3) := by decide +kernel
theorem dX11_letters_4 : decode cX11_letters 4 = .ok (.aload_n 0, 1) := by decide +kernel
theorem dX11_letters_5 : decode cX11_letters 5 = .ok (.bipush 97, 2) := by decide +kernel
theorem dX11_letters_7 : decode cX11_letters 7 = .ok (.bipush 122, 2) := by decide +kernel
theorem dX11_letters_9 : decode cX11_letters 9 = .ok (.invokevirtual 97, 3) := by decide +kernel
theorem dX11_letters_12 : decode cX11_letters 12 = .ok (.ifCond .eq 16, 3) := by decide +kernel
theorem dX11_letters_15 : decode cX11_letters 15 = .ok (.aload_n 0, 1) := by decide +kernel
theorem dX11_letters_16 : decode cX11_letters 16 = .ok (.dup, 1) := by decide +kernel
theorem dX11_letters_17 : decode cX11_letters 17 = .ok (.getfield 91, 3) := by decide +kernel
theorem dX11_letters_20 : decode cX11_letters 20 = .ok (.iconst 1, 1) := by decide +kernel
theorem dX11_letters_21 : decode cX11_letters 21 = .ok (.iadd, 1) := by decide +kernel
theorem dX11_letters_22 : decode cX11_letters 22 = .ok (.putfield 91, 3) := by decide +kernel
theorem dX11_letters_25 : decode cX11_letters 25 = .ok (.goto (-21), 3) := by decide +kernel
theorem dX11_letters_28 : decode cX11_letters 28 = .ok (.return_, 1) := by decide +kernel
theorem dX11_isWord_0 : decode cX11_isWord 0 = .ok (.aload_n 0, 1) := by decide +kernel
theorem dX11_isWord_1 : decode cX11_isWord 1 = .ok (.getfield 91, 3) := by decide +kernel
theorem dX11_isWord_4 : decode cX11_isWord 4 = .ok (.aload_n 0, 1) := by decide +kernel
theorem dX11_isWord_5 : decode cX11_isWord 5 = .ok (.getfield 100, 3) := by decide +kernel
theorem dX11_isWord_8 : decode cX11_isWord 8 = .ok (.isub, 1) := by decide +kernel
theorem dX11_isWord_9 : decode cX11_isWord 9 = .ok (.aload_n 1, 1) := by decide +kernel
theorem dX11_isWord_10 : decode cX11_isWord 10 = .ok (.invokevirtual 106, 3) := by decide +kernel
theorem dX11_isWord_13 : decode cX11_isWord 13 = .ok (.if_icmp .ne 7, 3) := by decide +kernel
theorem dX11_isWord_16 : decode cX11_isWord 16 = .ok (.iconst 1, 1) := by decide +kernel
theorem dX11_isWord_17 : decode cX11_isWord 17 = .ok (.goto 4, 3) := by decide +kernel
theorem dX11_isWord_20 : decode cX11_isWord 20 = .ok (.iconst 0, 1) := by decide +kernel
theorem dX11_isWord_21 : decode cX11_isWord 21 = .ok (.istore_n 2, 1) := by decide +kernel
theorem dX11_isWord_22 : decode cX11_isWord 22 = .ok (.iconst 0, 1) := by decide +kernel
theorem dX11_isWord_23 : decode cX11_isWord 23 = .ok (.istore_n 3, 1) := by decide +kernel
theorem dX11_isWord_24 : decode cX11_isWord 24 = .ok (.iload_n 2, 1) := by decide +kernel
theorem dX11_isWord_25 : decode cX11_isWord 25 = .ok (.ifCond .eq 42, 3) := by decide +kernel
theorem dX11_isWord_28 : decode cX11_isWord 28 = .ok (.iload_n 3, 1) := by decide +kernel
theorem dX11_isWord_29 : decode cX11_isWord 29 = .ok (.aload_n 1, 1) := by decide +kernel
theorem dX11_isWord_30 : decode cX11_isWord 30 = .ok (.invokevirtual 106, 3) := by decide +kernel
theorem dX11_isWord_33 : decode cX11_isWord 33 = .ok (.if_icmp .ge 34, 3) := by decide +kernel
theorem dX11_isWord_36 : decode cX11_isWord 36 = .ok (.aload_n 0, 1) := by decide +kernel
theorem dX11_isWord_37 : decode cX11_isWord 37 = .ok (.getfield 29, 3) := by decide +kernel
theorem dX11_isWord_40 : decode cX11_isWord 40 = .ok (.aload_n 0, 1) := by decide +kernel
theorem dX11_isWord_41 : decode cX11_isWord 41 = .ok (.getfield 100, 3) := by decide +kernel
theorem dX11_isWord_44 : decode cX11_isWord 44 = .ok (.iload_n 3, 1) := by decide +kernel
theorem dX11_isWord_45 : decode cX11_isWord 45 = .ok (.iadd, 1) := by decide +kernel
theorem dX11_isWord_46 : decode cX11_isWord 46 = .ok (.baload, 1) := by decide +kernel
theorem dX11_isWord_47 : decode cX11_isWord 47 = .ok (.aload_n 1, 1) := by decide +kernel
theorem dX11_isWord_48 : decode cX11_isWord 48 = .ok (.iload_n 3, 1) := by decide +kernel
theorem dX11_isWord_49 : decode cX11_isWord 49 = .ok (.invokevirtual 111, 3) := by decide +kernel
theorem dX11_isWord_52 : decode cX11_isWord 52 = .ok (.if_icmp .ne 7, 3) := by decide +kernel
theorem dX11_isWord_55 : decode cX11_isWord 55 = .ok (.iconst 1, 1) := by decide +kernel
theorem dX11_isWord_56 : decode cX11_isWord 56 = .ok (.goto 4, 3) := by decide +kernel
theorem dX11_isWord_59 : decode cX11_isWord 59 = .ok (.iconst 0, 1) := by decide +kernel
theorem dX11_isWord_60 : decode cX11_isWord 60 = .ok (.istore_n 2, 1) := by decide +kernel
theorem dX11_isWord_61 : decode cX11_isWord 61 = .ok (.iinc 3 1, 3) := by decide +kernel
theorem dX11_isWord_64 : decode cX11_isWord 64 = .ok (.goto (-40), 3) := by decide +kernel
theorem dX11_isWord_67 : decode cX11_isWord 67 = .ok (.iload_n 2, 1) := by decide +kernel
theorem dX11_isWord_68 : decode cX11_isWord 68 = .ok (.ireturn, 1) := by decide +kernel
theorem dX11_passes_0 : decode cX11_passes 0 = .ok (.aload_n 0, 1) := by decide +kernel
theorem dX11_passes_1 : decode cX11_passes 1 = .ok (.invokevirtual 115, 3) := by decide +kernel
theorem dX11_passes_4 : decode cX11_passes 4 = .ok (.aload_n 0, 1) := by decide +kernel
theorem dX11_passes_5 : decode cX11_passes 5 = .ok (.aload_n 1, 1) := by decide +kernel
theorem dX11_passes_6 : decode cX11_passes 6 = .ok (.invokevirtual 118, 3) := by decide +kernel
theorem dX11_passes_9 : decode cX11_passes 9 = .ok (.ifCond .eq 5, 3) := by decide +kernel
theorem dX11_passes_12 : decode cX11_passes 12 = .ok (.iconst 1, 1) := by decide +kernel
theorem dX11_passes_13 : decode cX11_passes 13 = .ok (.ireturn, 1) := by decide +kernel
theorem dX11_passes_14 : decode cX11_passes 14 = .ok (.aload_n 0, 1) := by decide +kernel
theorem dX11_passes_15 : decode cX11_passes 15 = .ok (.aload_n 0, 1) := by decide +kernel
theorem dX11_passes_16 : decode cX11_passes 16 = .ok (.getfield 100, 3) := by decide +kernel
theorem dX11_passes_19 : decode cX11_passes 19 = .ok (.putfield 91, 3) := by decide +kernel
theorem dX11_passes_22 : decode cX11_passes 22 = .ok (.iconst 0, 1) := by decide +kernel
theorem dX11_passes_23 : decode cX11_passes 23 = .ok (.ireturn, 1) := by decide +kernel
theorem dX11_sign_0 : decode cX11_sign 0 = .ok (.aload_n 0, 1) := by decide +kernel
theorem dX11_sign_1 : decode cX11_sign 1 = .ok (.invokevirtual 103, 3) := by decide +kernel
theorem dX11_sign_4 : decode cX11_sign 4 = .ok (.aload_n 0, 1) := by decide +kernel
theorem dX11_sign_5 : decode cX11_sign 5 = .ok (.iload_n 1, 1) := by decide +kernel
theorem dX11_sign_6 : decode cX11_sign 6 = .ok (.iload_n 1, 1) := by decide +kernel
theorem dX11_sign_7 : decode cX11_sign 7 = .ok (.invokevirtual 97, 3) := by decide +kernel
theorem dX11_sign_10 : decode cX11_sign 10 = .ok (.ifCond .ne 5, 3) := by decide +kernel
theorem dX11_sign_13 : decode cX11_sign 13 = .ok (.iconst 0, 1) := by decide +kernel
theorem dX11_sign_14 : decode cX11_sign 14 = .ok (.ireturn, 1) := by decide +kernel
theorem dX11_sign_15 : decode cX11_sign 15 = .ok (.aload_n 0, 1) := by decide +kernel
theorem dX11_sign_16 : decode cX11_sign 16 = .ok (.dup, 1) := by decide +kernel
theorem dX11_sign_17 : decode cX11_sign 17 = .ok (.getfield 91, 3) := by decide +kernel
theorem dX11_sign_20 : decode cX11_sign 20 = .ok (.iconst 1, 1) := by decide +kernel
theorem dX11_sign_21 : decode cX11_sign 21 = .ok (.iadd, 1) := by decide +kernel
theorem dX11_sign_22 : decode cX11_sign 22 = .ok (.putfield 91, 3) := by decide +kernel
theorem dX11_sign_25 : decode cX11_sign 25 = .ok (.iconst 1, 1) := by decide +kernel
theorem dX11_sign_26 : decode cX11_sign 26 = .ok (.ireturn, 1) := by decide +kernel
theorem dX11_number_0 : decode cX11_number 0 = .ok (.aload_n 0, 1) := by decide +kernel
theorem dX11_number_1 : decode cX11_number 1 = .ok (.invokevirtual 103, 3) := by decide +kernel
theorem dX11_number_4 : decode cX11_number 4 = .ok (.iconst 0, 1) := by decide +kernel
theorem dX11_number_5 : decode cX11_number 5 = .ok (.istore_n 3, 1) := by decide +kernel
theorem dX11_number_6 : decode cX11_number 6 = .ok (.aload_n 0, 1) := by decide +kernel
theorem dX11_number_7 : decode cX11_number 7 = .ok (.bipush 48, 2) := by decide +kernel
theorem dX11_number_9 : decode cX11_number 9 = .ok (.bipush 57, 2) := by decide +kernel
theorem dX11_number_11 : decode cX11_number 11 = .ok (.invokevirtual 97, 3) := by decide +kernel
theorem dX11_number_14 : decode cX11_number 14 = .ok (.ifCond .eq 51, 3) := by decide +kernel
theorem dX11_number_17 : decode cX11_number 17 = .ok (.aload_n 0, 1) := by decide +kernel
theorem dX11_number_18 : decode cX11_number 18 = .ok (.getfield 91, 3) := by decide +kernel
theorem dX11_number_21 : decode cX11_number 21 = .ok (.aload_n 0, 1) := by decide +kernel
theorem dX11_number_22 : decode cX11_number 22 = .ok (.getfield 100, 3) := by decide +kernel
theorem dX11_number_25 : decode cX11_number 25 = .ok (.isub, 1) := by decide +kernel
theorem dX11_number_26 : decode cX11_number 26 = .ok (.iconst 3, 1) := by decide +kernel
theorem dX11_number_27 : decode cX11_number 27 = .ok (.if_icmp .ge 23, 3) := by decide +kernel
theorem dX11_number_30 : decode cX11_number 30 = .ok (.bipush 10, 2) := by decide +kernel
theorem dX11_number_32 : decode cX11_number 32 = .ok (.iload_n 3, 1) := by decide +kernel
theorem dX11_number_33 : decode cX11_number 33 = .ok (.imul, 1) := by decide +kernel
theorem dX11_number_34 : decode cX11_number 34 = .ok (.aload_n 0, 1) := by decide +kernel
theorem dX11_number_35 : decode cX11_number 35 = .ok (.getfield 29, 3) := by decide +kernel
theorem dX11_number_38 : decode cX11_number 38 = .ok (.aload_n 0, 1) := by decide +kernel
theorem dX11_number_39 : decode cX11_number 39 = .ok (.getfield 91, 3) := by decide +kernel
theorem dX11_number_42 : decode cX11_number 42 = .ok (.baload, 1) := by decide +kernel
theorem dX11_number_43 : decode cX11_number 43 = .ok (.iadd, 1) := by decide +kernel
theorem dX11_number_44 : decode cX11_number 44 = .ok (.bipush 48, 2) := by decide +kernel
theorem dX11_number_46 : decode cX11_number 46 = .ok (.isub, 1) := by decide +kernel
theorem dX11_number_47 : decode cX11_number 47 = .ok (.goto 4, 3) := by decide +kernel
theorem dX11_number_50 : decode cX11_number 50 = .ok (.iload_n 3, 1) := by decide +kernel
theorem dX11_number_51 : decode cX11_number 51 = .ok (.istore_n 3, 1) := by decide +kernel
theorem dX11_number_52 : decode cX11_number 52 = .ok (.aload_n 0, 1) := by decide +kernel
theorem dX11_number_53 : decode cX11_number 53 = .ok (.dup, 1) := by decide +kernel
theorem dX11_number_54 : decode cX11_number 54 = .ok (.getfield 91, 3) := by decide +kernel
theorem dX11_number_57 : decode cX11_number 57 = .ok (.iconst 1, 1) := by decide +kernel
theorem dX11_number_58 : decode cX11_number 58 = .ok (.iadd, 1) := by decide +kernel
theorem dX11_number_59 : decode cX11_number 59 = .ok (.putfield 91, 3) := by decide +kernel
theorem dX11_number_62 : decode cX11_number 62 = .ok (.goto (-56), 3) := by decide +kernel
theorem dX11_number_65 : decode cX11_number 65 = .ok (.aload_n 0, 1) := by decide +kernel
theorem dX11_number_66 : decode cX11_number 66 = .ok (.getfield 91, 3) := by decide +kernel
theorem dX11_number_69 : decode cX11_number 69 = .ok (.aload_n 0, 1) := by decide +kernel
theorem dX11_number_70 : decode cX11_number 70 = .ok (.getfield 100, 3) := by decide +kernel
theorem dX11_number_73 : decode cX11_number 73 = .ok (.if_icmp .eq 26, 3) := by decide +kernel
theorem dX11_number_76 : decode cX11_number 76 = .ok (.aload_n 0, 1) := by decide +kernel
theorem dX11_number_77 : decode cX11_number 77 = .ok (.getfield 91, 3) := by decide +kernel
theorem dX11_number_80 : decode cX11_number 80 = .ok (.aload_n 0, 1) := by decide +kernel
theorem dX11_number_81 : decode cX11_number 81 = .ok (.getfield 100, 3) := by decide +kernel
theorem dX11_number_84 : decode cX11_number 84 = .ok (.isub, 1) := by decide +kernel
theorem dX11_number_85 : decode cX11_number 85 = .ok (.iconst 3, 1) := by decide +kernel
theorem dX11_number_86 : decode cX11_number 86 = .ok (.if_icmp .gt 13, 3) := by decide +kernel
theorem dX11_number_89 : decode cX11_number 89 = .ok (.iload_n 3, 1) := by decide +kernel
theorem dX11_number_90 : decode cX11_number 90 = .ok (.iload_n 1, 1) := by decide +kernel
theorem dX11_number_91 : decode cX11_number 91 = .ok (.if_icmp .lt 8, 3) := by decide +kernel
theorem dX11_number_94 : decode cX11_number 94 = .ok (.iload_n 3, 1) := by decide +kernel
theorem dX11_number_95 : decode cX11_number 95 = .ok (.iload_n 2, 1) := by decide +kernel
theorem dX11_number_96 : decode cX11_number 96 = .ok (.if_icmp .le 7, 3) := by decide +kernel
theorem dX11_number_99 : decode cX11_number 99 = .ok (.iconst (-1), 1) := by decide +kernel
theorem dX11_number_100 : decode cX11_number 100 = .ok (.goto 4, 3) := by decide +kernel
theorem dX11_number_103 : decode cX11_number 103 = .ok (.iload_n 3, 1) := by decide +kernel
theorem dX11_number_104 : decode cX11_number 104 = .ok (.ireturn, 1) := by decide +kernel
theorem dX11_after_0 : decode cX11_after 0 = .ok (.aload_n 0, 1) := by decide +kernel
theorem dX11_after_1 : decode cX11_after 1 = .ok (.invokevirtual 115, 3) := by decide +kernel
theorem dX11_after_4 : decode cX11_after 4 = .ok (.aload_n 0, 1) := by decide +kernel
theorem dX11_after_5 : decode cX11_after 5 = .ok (.aload_n 1, 1) := by decide +kernel
theorem dX11_after_6 : decode cX11_after 6 = .ok (.invokevirtual 118, 3) := by decide +kernel
theorem dX11_after_9 : decode cX11_after 9 = .ok (.ifCond .eq 12, 3) := by decide +kernel
theorem dX11_after_12 : decode cX11_after 12 = .ok (.aload_n 0, 1) := by decide +kernel
theorem dX11_after_13 : decode cX11_after 13 = .ok (.iload_n 2, 1) := by decide +kernel
theorem dX11_after_14 : decode cX11_after 14 = .ok (.iload_n 3, 1) := by decide +kernel
theorem dX11_after_15 : decode cX11_after 15 = .ok (.invokevirtual 122, 3) := by decide +kernel
theorem dX11_after_18 : decode cX11_after 18 = .ok (.goto 4, 3) := by decide +kernel
theorem dX11_after_21 : decode cX11_after 21 = .ok (.iconst (-1), 1) := by decide +kernel
theorem dX11_after_22 : decode cX11_after 22 = .ok (.ireturn, 1) := by decide +kernel
theorem dX11_fault_0 : decode cX11_fault 0 = .ok (.aload_n 0, 1) := by decide +kernel
theorem dX11_fault_1 : decode cX11_fault 1 = .ok (.iconst 0, 1) := by decide +kernel
theorem dX11_fault_2 : decode cX11_fault 2 = .ok (.putfield 3, 3) := by decide +kernel
theorem dX11_fault_5 : decode cX11_fault 5 = .ok (.aload_n 0, 1) := by decide +kernel
theorem dX11_fault_6 : decode cX11_fault 6 = .ok (.getfield 33, 3) := by decide +kernel
theorem dX11_fault_9 : decode cX11_fault 9 = .ok (.ireturn, 1) := by decide +kernel
theorem dX11_uses_0 : decode cX11_uses 0 = .ok (.aload_n 0, 1) := by decide +kernel
theorem dX11_uses_1 : decode cX11_uses 1 = .ok (.iconst 0, 1) := by decide +kernel
theorem dX11_uses_2 : decode cX11_uses 2 = .ok (.putfield 3, 3) := by decide +kernel
theorem dX11_uses_5 : decode cX11_uses 5 = .ok (.aload_n 0, 1) := by decide +kernel
theorem dX11_uses_6 : decode cX11_uses 6 = .ok (.aload_n 0, 1) := by decide +kernel
theorem dX11_uses_7 : decode cX11_uses 7 = .ok (.getfield 88, 3) := by decide +kernel
theorem dX11_uses_10 : decode cX11_uses 10 = .ok (.putfield 94, 3) := by decide +kernel
theorem dX11_uses_13 : decode cX11_uses 13 = .ok (.aload_n 0, 1) := by decide +kernel
theorem dX11_uses_14 : decode cX11_uses 14 = .ok (.iconst 0, 1) := by decide +kernel
theorem dX11_uses_15 : decode cX11_uses 15 = .ok (.putfield 88, 3) := by decide +kernel
theorem dX11_uses_18 : decode cX11_uses 18 = .ok (.aload_n 0, 1) := by decide +kernel
theorem dX11_uses_19 : decode cX11_uses 19 = .ok (.iconst 0, 1) := by decide +kernel
theorem dX11_uses_20 : decode cX11_uses 20 = .ok (.putfield 91, 3) := by decide +kernel
theorem dX11_uses_23 : decode cX11_uses 23 = .ok (.return_, 1) := by decide +kernel
theorem dX11_readNumber_0 : decode cX11_readNumber 0 = .ok (.aload_n 0, 1) := by decide +kernel
theorem dX11_readNumber_1 : decode cX11_readNumber 1 = .ok (.iload_n 2, 1) := by decide +kernel
theorem dX11_readNumber_2 : decode cX11_readNumber 2 = .ok (.iload_n 3, 1) := by decide +kernel
theorem dX11_readNumber_3 : decode cX11_readNumber 3 = .ok (.invokevirtual 122, 3) := by decide +kernel
theorem dX11_readNumber_6 : decode cX11_readNumber 6 = .ok (.istore 4, 2) := by decide +kernel
theorem dX11_readNumber_8 : decode cX11_readNumber 8 = .ok (.aload_n 0, 1) := by decide +kernel
theorem dX11_readNumber_9 : decode cX11_readNumber 9 = .ok (.getfield 13, 3) := by decide +kernel
theorem dX11_readNumber_12 : decode cX11_readNumber 12 = .ok (.iload_n 1, 1) := by decide +kernel
theorem dX11_readNumber_13 : decode cX11_readNumber 13 = .ok (.iload 4, 2) := by decide +kernel
theorem dX11_readNumber_15 : decode cX11_readNumber 15 = .ok (.ifCond .ge 12, 3) := by decide +kernel
theorem dX11_readNumber_18 : decode cX11_readNumber 18 = .ok (.aload_n 0, 1) := by decide +kernel
theorem dX11_readNumber_19 : decode cX11_readNumber 19 = .ok (.getfield 13, 3) := by decide +kernel
theorem dX11_readNumber_22 : decode cX11_readNumber 22 = .ok (.iload_n 1, 1) := by decide +kernel
theorem dX11_readNumber_23 : decode cX11_readNumber 23 = .ok (.iaload, 1) := by decide +kernel
theorem dX11_readNumber_24 : decode cX11_readNumber 24 = .ok (.goto 5, 3) := by decide +kernel
theorem dX11_readNumber_27 : decode cX11_readNumber 27 = .ok (.iload 4, 2) := by decide +kernel
theorem dX11_readNumber_29 : decode cX11_readNumber 29 = .ok (.iastore, 1) := by decide +kernel
theorem dX11_readNumber_30 : decode cX11_readNumber 30 = .ok (.iload 4, 2) := by decide +kernel
theorem dX11_readNumber_32 : decode cX11_readNumber 32 = .ok (.ifCond .lt 7, 3) := by decide +kernel
theorem dX11_readNumber_35 : decode cX11_readNumber 35 = .ok (.iconst 1, 1) := by decide +kernel
theorem dX11_readNumber_36 : decode cX11_readNumber 36 = .ok (.goto 4, 3) := by decide +kernel
theorem dX11_readNumber_39 : decode cX11_readNumber 39 = .ok (.iconst 0, 1) := by decide +kernel
theorem dX11_readNumber_40 : decode cX11_readNumber 40 = .ok (.ireturn, 1) := by decide +kernel
theorem dX11_readDiner_0 : decode cX11_readDiner 0 = .ok (.aload_n 0, 1) := by decide +kernel
theorem dX11_readDiner_1 : decode cX11_readDiner 1 = .ok (.invokevirtual 68, 3) := by decide +kernel
theorem dX11_readDiner_4 : decode cX11_readDiner 4 = .ok (.istore_n 1, 1) := by decide +kernel
theorem dX11_readDiner_5 : decode cX11_readDiner 5 = .ok (.iload_n 1, 1) := by decide +kernel
theorem dX11_readDiner_6 : decode cX11_readDiner 6 = .ok (.bipush 8, 2) := by decide +kernel
theorem dX11_readDiner_8 : decode cX11_readDiner 8 = .ok (.if_icmp .ne 5, 3) := by decide +kernel
theorem dX11_readDiner_11 : decode cX11_readDiner 11 = .ok (.iconst 0, 1) := by decide +kernel
theorem dX11_readDiner_12 : decode cX11_readDiner 12 = .ok (.ireturn, 1) := by decide +kernel
theorem dX11_readDiner_13 : decode cX11_readDiner 13 = .ok (.aload_n 0, 1) := by decide +kernel
theorem dX11_readDiner_14 : decode cX11_readDiner 14 = .ok (.ldc 125, 2) := by decide +kernel
theorem dX11_readDiner_16 : decode cX11_readDiner 16 = .ok (.iconst 0, 1) := by decide +kernel
theorem dX11_readDiner_17 : decode cX11_readDiner 17 = .ok (.bipush 9, 2) := by decide +kernel
theorem dX11_readDiner_19 : decode cX11_readDiner 19 = .ok (.invokevirtual 127, 3) := by decide +kernel
theorem dX11_readDiner_22 : decode cX11_readDiner 22 = .ok (.istore_n 2, 1) := by decide +kernel
theorem dX11_readDiner_23 : decode cX11_readDiner 23 = .ok (.iload_n 2, 1) := by decide +kernel
theorem dX11_readDiner_24 : decode cX11_readDiner 24 = .ok (.ifCond .ge 7, 3) := by decide +kernel
theorem dX11_readDiner_27 : decode cX11_readDiner 27 = .ok (.iconst (-1), 1) := by decide +kernel
theorem dX11_readDiner_28 : decode cX11_readDiner 28 = .ok (.goto 12, 3) := by decide +kernel
theorem dX11_readDiner_31 : decode cX11_readDiner 31 = .ok (.aload_n 0, 1) := by decide +kernel
theorem dX11_readDiner_32 : decode cX11_readDiner 32 = .ok (.ldc 131, 2) := by decide +kernel
theorem dX11_readDiner_34 : decode cX11_readDiner 34 = .ok (.iconst 0, 1) := by decide +kernel
theorem dX11_readDiner_35 : decode cX11_readDiner 35 = .ok (.bipush 9, 2) := by decide +kernel
theorem dX11_readDiner_37 : decode cX11_readDiner 37 = .ok (.invokevirtual 127, 3) := by decide +kernel
theorem dX11_readDiner_40 : decode cX11_readDiner 40 = .ok (.istore_n 3, 1) := by decide +kernel
theorem dX11_readDiner_41 : decode cX11_readDiner 41 = .ok (.iload_n 3, 1) := by decide +kernel
theorem dX11_readDiner_42 : decode cX11_readDiner 42 = .ok (.ifCond .lt 12, 3) := by decide +kernel
theorem dX11_readDiner_45 : decode cX11_readDiner 45 = .ok (.aload_n 0, 1) := by decide +kernel
theorem dX11_readDiner_46 : decode cX11_readDiner 46 = .ok (.iload_n 3, 1) := by decide +kernel
theorem dX11_readDiner_47 : decode cX11_readDiner 47 = .ok (.invokevirtual 79, 3) := by decide +kernel
theorem dX11_readDiner_50 : decode cX11_readDiner 50 = .ok (.iconst (-1), 1) := by decide +kernel
theorem dX11_readDiner_51 : decode cX11_readDiner 51 = .ok (.if_icmp .eq 5, 3) := by decide +kernel
theorem dX11_readDiner_54 : decode cX11_readDiner 54 = .ok (.iconst 0, 1) := by decide +kernel
theorem dX11_readDiner_55 : decode cX11_readDiner 55 = .ok (.ireturn, 1) := by decide +kernel
theorem dX11_readDiner_56 : decode cX11_readDiner 56 = .ok (.aload_n 0, 1) := by decide +kernel
theorem dX11_readDiner_57 : decode cX11_readDiner 57 = .ok (.getfield 13, 3) := by decide +kernel
theorem dX11_readDiner_60 : decode cX11_readDiner 60 = .ok (.iload_n 1, 1) := by decide +kernel
theorem dX11_readDiner_61 : decode cX11_readDiner 61 = .ok (.iconst 0, 1) := by decide +kernel
theorem dX11_readDiner_62 : decode cX11_readDiner 62 = .ok (.invokestatic 55, 3) := by decide +kernel
theorem dX11_readDiner_65 : decode cX11_readDiner 65 = .ok (.iload_n 3, 1) := by decide +kernel
theorem dX11_readDiner_66 : decode cX11_readDiner 66 = .ok (.iastore, 1) := by decide +kernel
theorem dX11_readDiner_67 : decode cX11_readDiner 67 = .ok (.aload_n 0, 1) := by decide +kernel
theorem dX11_readDiner_68 : decode cX11_readDiner 68 = .ok (.getfield 13, 3) := by decide +kernel
theorem dX11_readDiner_71 : decode cX11_readDiner 71 = .ok (.iload_n 1, 1) := by decide +kernel
theorem dX11_readDiner_72 : decode cX11_readDiner 72 = .ok (.iconst 1, 1) := by decide +kernel
theorem dX11_readDiner_73 : decode cX11_readDiner 73 = .ok (.invokestatic 55, 3) := by decide +kernel
theorem dX11_readDiner_76 : decode cX11_readDiner 76 = .ok (.iload_n 2, 1) := by decide +kernel
theorem dX11_readDiner_77 : decode cX11_readDiner 77 = .ok (.iastore, 1) := by decide +kernel
theorem dX11_readDiner_78 : decode cX11_readDiner 78 = .ok (.aload_n 0, 1) := by decide +kernel
theorem dX11_readDiner_79 : decode cX11_readDiner 79 = .ok (.getfield 13, 3) := by decide +kernel
theorem dX11_readDiner_82 : decode cX11_readDiner 82 = .ok (.iload_n 1, 1) := by decide +kernel
theorem dX11_readDiner_83 : decode cX11_readDiner 83 = .ok (.iconst 2, 1) := by decide +kernel
theorem dX11_readDiner_84 : decode cX11_readDiner 84 = .ok (.invokestatic 55, 3) := by decide +kernel
theorem dX11_readDiner_87 : decode cX11_readDiner 87 = .ok (.aload_n 0, 1) := by decide +kernel
theorem dX11_readDiner_88 : decode cX11_readDiner 88 = .ok (.ldc 133, 2) := by decide +kernel
theorem dX11_readDiner_90 : decode cX11_readDiner 90 = .ok (.invokevirtual 135, 3) := by decide +kernel
theorem dX11_readDiner_93 : decode cX11_readDiner 93 = .ok (.ifCond .eq 7, 3) := by decide +kernel
theorem dX11_readDiner_96 : decode cX11_readDiner 96 = .ok (.iconst 1, 1) := by decide +kernel
theorem dX11_readDiner_97 : decode cX11_readDiner 97 = .ok (.goto 4, 3) := by decide +kernel
theorem dX11_readDiner_100 : decode cX11_readDiner 100 = .ok (.iconst 0, 1) := by decide +kernel
theorem dX11_readDiner_101 : decode cX11_readDiner 101 = .ok (.iastore, 1) := by decide +kernel
theorem dX11_readDiner_102 : decode cX11_readDiner 102 = .ok (.iconst 0, 1) := by decide +kernel
theorem dX11_readDiner_103 : decode cX11_readDiner 103 = .ok (.istore 4, 2) := by decide +kernel
theorem dX11_readDiner_105 : decode cX11_readDiner 105 = .ok (.iload 4, 2) := by decide +kernel
theorem dX11_readDiner_107 : decode cX11_readDiner 107 = .ok (.bipush 6, 2) := by decide +kernel
theorem dX11_readDiner_109 : decode cX11_readDiner 109 = .ok (.if_icmp .ge 23, 3) := by decide +kernel
theorem dX11_readDiner_112 : decode cX11_readDiner 112 = .ok (.aload_n 0, 1) := by decide +kernel
theorem dX11_readDiner_113 : decode cX11_readDiner 113 = .ok (.getfield 13, 3) := by decide +kernel
theorem dX11_readDiner_116 : decode cX11_readDiner 116 = .ok (.iload_n 1, 1) := by decide +kernel
theorem dX11_readDiner_117 : decode cX11_readDiner 117 = .ok (.iconst 3, 1) := by decide +kernel
theorem dX11_readDiner_118 : decode cX11_readDiner 118 = .ok (.iload 4, 2) := by decide +kernel
theorem dX11_readDiner_120 : decode cX11_readDiner 120 = .ok (.iadd, 1) := by decide +kernel
theorem dX11_readDiner_121 : decode cX11_readDiner 121 = .ok (.invokestatic 55, 3) := by decide +kernel
theorem dX11_readDiner_124 : decode cX11_readDiner 124 = .ok (.iconst 0, 1) := by decide +kernel
theorem dX11_readDiner_125 : decode cX11_readDiner 125 = .ok (.iastore, 1) := by decide +kernel
theorem dX11_readDiner_126 : decode cX11_readDiner 126 = .ok (.iinc 4 1, 3) := by decide +kernel
theorem dX11_readDiner_129 : decode cX11_readDiner 129 = .ok (.goto (-24), 3) := by decide +kernel
theorem dX11_readDiner_132 : decode cX11_readDiner 132 = .ok (.aload_n 0, 1) := by decide +kernel
theorem dX11_readDiner_133 : decode cX11_readDiner 133 = .ok (.getfield 13, 3) := by decide +kernel
theorem dX11_readDiner_136 : decode cX11_readDiner 136 = .ok (.iconst 0, 1) := by decide +kernel
theorem dX11_readDiner_137 : decode cX11_readDiner 137 = .ok (.dup2, 1) := by decide +kernel
theorem dX11_readDiner_138 : decode cX11_readDiner 138 = .ok (.iaload, 1) := by decide +kernel
theorem dX11_readDiner_139 : decode cX11_readDiner 139 = .ok (.iconst 1, 1) := by decide +kernel
theorem dX11_readDiner_140 : decode cX11_readDiner 140 = .ok (.iadd, 1) := by decide +kernel
theorem dX11_readDiner_141 : decode cX11_readDiner 141 = .ok (.iastore, 1) := by decide +kernel
theorem dX11_readDiner_142 : decode cX11_readDiner 142 = .ok (.iconst 1, 1) := by decide +kernel
theorem dX11_readDiner_143 : decode cX11_readDiner 143 = .ok (.ireturn, 1) := by decide +kernel
theorem dX11_readCellar_0 : decode cX11_readCellar 0 = .ok (.aload_n 0, 1) := by decide +kernel
theorem dX11_readCellar_1 : decode cX11_readCellar 1 = .ok (.invokevirtual 76, 3) := by decide +kernel
theorem dX11_readCellar_4 : decode cX11_readCellar 4 = .ok (.istore_n 1, 1) := by decide +kernel
theorem dX11_readCellar_5 : decode cX11_readCellar 5 = .ok (.iload_n 1, 1) := by decide +kernel
theorem dX11_readCellar_6 : decode cX11_readCellar 6 = .ok (.iconst 5, 1) := by decide +kernel
theorem dX11_readCellar_7 : decode cX11_readCellar 7 = .ok (.if_icmp .ne 5, 3) := by decide +kernel
theorem dX11_readCellar_10 : decode cX11_readCellar 10 = .ok (.iconst 0, 1) := by decide +kernel
theorem dX11_readCellar_11 : decode cX11_readCellar 11 = .ok (.ireturn, 1) := by decide +kernel
theorem dX11_readCellar_12 : decode cX11_readCellar 12 = .ok (.aload_n 0, 1) := by decide +kernel
theorem dX11_readCellar_13 : decode cX11_readCellar 13 = .ok (.invokevirtual 115, 3) := by decide +kernel
theorem dX11_readCellar_16 : decode cX11_readCellar 16 = .ok (.aload_n 0, 1) := by decide +kernel
theorem dX11_readCellar_17 : decode cX11_readCellar 17 = .ok (.getfield 91, 3) := by decide +kernel
theorem dX11_readCellar_20 : decode cX11_readCellar 20 = .ok (.aload_n 0, 1) := by decide +kernel
theorem dX11_readCellar_21 : decode cX11_readCellar 21 = .ok (.getfield 100, 3) := by decide +kernel
theorem dX11_readCellar_24 : decode cX11_readCellar 24 = .ok (.isub, 1) := by decide +kernel
theorem dX11_readCellar_25 : decode cX11_readCellar 25 = .ok (.iconst 1, 1) := by decide +kernel
theorem dX11_readCellar_26 : decode cX11_readCellar 26 = .ok (.if_icmp .ne 18, 3) := by decide +kernel
theorem dX11_readCellar_29 : decode cX11_readCellar 29 = .ok (.aload_n 0, 1) := by decide +kernel
theorem dX11_readCellar_30 : decode cX11_readCellar 30 = .ok (.getfield 29, 3) := by decide +kernel
theorem dX11_readCellar_33 : decode cX11_readCellar 33 = .ok (.aload_n 0, 1) := by decide +kernel
theorem dX11_readCellar_34 : decode cX11_readCellar 34 = .ok (.getfield 100, 3) := by decide +kernel
theorem dX11_readCellar_37 : decode cX11_readCellar 37 = .ok (.baload, 1) := by decide +kernel
theorem dX11_readCellar_38 : decode cX11_readCellar 38 = .ok (.bipush 97, 2) := by decide +kernel
theorem dX11_readCellar_40 : decode cX11_readCellar 40 = .ok (.isub, 1) := by decide +kernel
theorem dX11_readCellar_41 : decode cX11_readCellar 41 = .ok (.goto 4, 3) := by decide +kernel
theorem dX11_readCellar_44 : decode cX11_readCellar 44 = .ok (.iconst (-1), 1) := by decide +kernel
theorem dX11_readCellar_45 : decode cX11_readCellar 45 = .ok (.istore_n 2, 1) := by decide +kernel
theorem dX11_readCellar_46 : decode cX11_readCellar 46 = .ok (.iload_n 2, 1) := by decide +kernel
theorem dX11_readCellar_47 : decode cX11_readCellar 47 = .ok (.invokestatic 138, 3) := by decide +kernel
theorem dX11_readCellar_50 : decode cX11_readCellar 50 = .ok (.ifCond .eq 5, 3) := by decide +kernel
theorem dX11_readCellar_53 : decode cX11_readCellar 53 = .ok (.iconst 0, 1) := by decide +kernel
theorem dX11_readCellar_54 : decode cX11_readCellar 54 = .ok (.ireturn, 1) := by decide +kernel
theorem dX11_readCellar_55 : decode cX11_readCellar 55 = .ok (.aload_n 0, 1) := by decide +kernel
theorem dX11_readCellar_56 : decode cX11_readCellar 56 = .ok (.ldc 142, 2) := by decide +kernel
theorem dX11_readCellar_58 : decode cX11_readCellar 58 = .ok (.iconst 1, 1) := by decide +kernel
theorem dX11_readCellar_59 : decode cX11_readCellar 59 = .ok (.sipush 200, 3) := by decide +kernel
theorem dX11_readCellar_62 : decode cX11_readCellar 62 = .ok (.invokevirtual 127, 3) := by decide +kernel
theorem dX11_readCellar_65 : decode cX11_readCellar 65 = .ok (.istore_n 3, 1) := by decide +kernel
theorem dX11_readCellar_66 : decode cX11_readCellar 66 = .ok (.iload_n 3, 1) := by decide +kernel
theorem dX11_readCellar_67 : decode cX11_readCellar 67 = .ok (.ifCond .ge 7, 3) := by decide +kernel
theorem dX11_readCellar_70 : decode cX11_readCellar 70 = .ok (.iconst (-1), 1) := by decide +kernel
theorem dX11_readCellar_71 : decode cX11_readCellar 71 = .ok (.goto 12, 3) := by decide +kernel
theorem dX11_readCellar_74 : decode cX11_readCellar 74 = .ok (.aload_n 0, 1) := by decide +kernel
theorem dX11_readCellar_75 : decode cX11_readCellar 75 = .ok (.ldc 131, 2) := by decide +kernel
theorem dX11_readCellar_77 : decode cX11_readCellar 77 = .ok (.iconst 0, 1) := by decide +kernel
theorem dX11_readCellar_78 : decode cX11_readCellar 78 = .ok (.bipush 9, 2) := by decide +kernel
theorem dX11_readCellar_80 : decode cX11_readCellar 80 = .ok (.invokevirtual 127, 3) := by decide +kernel
theorem dX11_readCellar_83 : decode cX11_readCellar 83 = .ok (.istore 4, 2) := by decide +kernel
theorem dX11_readCellar_85 : decode cX11_readCellar 85 = .ok (.iload 4, 2) := by decide +kernel
theorem dX11_readCellar_87 : decode cX11_readCellar 87 = .ok (.ifCond .ge 5, 3) := by decide +kernel
theorem dX11_readCellar_90 : decode cX11_readCellar 90 = .ok (.iconst 0, 1) := by decide +kernel
theorem dX11_readCellar_91 : decode cX11_readCellar 91 = .ok (.ireturn, 1) := by decide +kernel
theorem dX11_readCellar_92 : decode cX11_readCellar 92 = .ok (.aload_n 0, 1) := by decide +kernel
theorem dX11_readCellar_93 : decode cX11_readCellar 93 = .ok (.ldc 144, 2) := by decide +kernel
theorem dX11_readCellar_95 : decode cX11_readCellar 95 = .ok (.invokevirtual 135, 3) := by decide +kernel
theorem dX11_readCellar_98 : decode cX11_readCellar 98 = .ok (.ifCond .eq 13, 3) := by decide +kernel
theorem dX11_readCellar_101 : decode cX11_readCellar 101 = .ok (.aload_n 0, 1) := by decide +kernel
theorem dX11_readCellar_102 : decode cX11_readCellar 102 = .ok (.iconst 0, 1) := by decide +kernel
theorem dX11_readCellar_103 : decode cX11_readCellar 103 = .ok (.bipush 9, 2) := by decide +kernel
theorem dX11_readCellar_105 : decode cX11_readCellar 105 = .ok (.invokevirtual 122, 3) := by decide +kernel
theorem dX11_readCellar_108 : decode cX11_readCellar 108 = .ok (.goto 4, 3) := by decide +kernel
theorem dX11_readCellar_111 : decode cX11_readCellar 111 = .ok (.iconst 0, 1) := by decide +kernel
theorem dX11_readCellar_112 : decode cX11_readCellar 112 = .ok (.istore 5, 2) := by decide +kernel
theorem dX11_readCellar_114 : decode cX11_readCellar 114 = .ok (.iload 5, 2) := by decide +kernel
theorem dX11_readCellar_116 : decode cX11_readCellar 116 = .ok (.ifCond .ge 5, 3) := by decide +kernel
theorem dX11_readCellar_119 : decode cX11_readCellar 119 = .ok (.iconst 0, 1) := by decide +kernel
theorem dX11_readCellar_120 : decode cX11_readCellar 120 = .ok (.ireturn, 1) := by decide +kernel
theorem dX11_readCellar_121 : decode cX11_readCellar 121 = .ok (.aload_n 0, 1) := by decide +kernel
theorem dX11_readCellar_122 : decode cX11_readCellar 122 = .ok (.ldc 146, 2) := by decide +kernel
theorem dX11_readCellar_124 : decode cX11_readCellar 124 = .ok (.invokevirtual 135, 3) := by decide +kernel
theorem dX11_readCellar_127 : decode cX11_readCellar 127 = .ok (.ifCond .eq 13, 3) := by decide +kernel
theorem dX11_readCellar_130 : decode cX11_readCellar 130 = .ok (.aload_n 0, 1) := by decide +kernel
theorem dX11_readCellar_131 : decode cX11_readCellar 131 = .ok (.iconst 1, 1) := by decide +kernel
theorem dX11_readCellar_132 : decode cX11_readCellar 132 = .ok (.bipush 9, 2) := by decide +kernel
theorem dX11_readCellar_134 : decode cX11_readCellar 134 = .ok (.invokevirtual 122, 3) := by decide +kernel
theorem dX11_readCellar_137 : decode cX11_readCellar 137 = .ok (.goto 4, 3) := by decide +kernel
theorem dX11_readCellar_140 : decode cX11_readCellar 140 = .ok (.iconst 1, 1) := by decide +kernel
theorem dX11_readCellar_141 : decode cX11_readCellar 141 = .ok (.istore 6, 2) := by decide +kernel
theorem dX11_readCellar_143 : decode cX11_readCellar 143 = .ok (.iload 6, 2) := by decide +kernel
theorem dX11_readCellar_145 : decode cX11_readCellar 145 = .ok (.ifCond .ge 5, 3) := by decide +kernel
theorem dX11_readCellar_148 : decode cX11_readCellar 148 = .ok (.iconst 0, 1) := by decide +kernel
theorem dX11_readCellar_149 : decode cX11_readCellar 149 = .ok (.ireturn, 1) := by decide +kernel
theorem dX11_readCellar_150 : decode cX11_readCellar 150 = .ok (.aload_n 0, 1) := by decide +kernel
theorem dX11_readCellar_151 : decode cX11_readCellar 151 = .ok (.getfield 13, 3) := by decide +kernel
theorem dX11_readCellar_154 : decode cX11_readCellar 154 = .ok (.iload_n 1, 1) := by decide +kernel
theorem dX11_readCellar_155 : decode cX11_readCellar 155 = .ok (.iconst 0, 1) := by decide +kernel
theorem dX11_readCellar_156 : decode cX11_readCellar 156 = .ok (.invokestatic 62, 3) := by decide +kernel
theorem dX11_readCellar_159 : decode cX11_readCellar 159 = .ok (.iload 4, 2) := by decide +kernel
theorem dX11_readCellar_161 : decode cX11_readCellar 161 = .ok (.iastore, 1) := by decide +kernel
theorem dX11_readCellar_162 : decode cX11_readCellar 162 = .ok (.aload_n 0, 1) := by decide +kernel
theorem dX11_readCellar_163 : decode cX11_readCellar 163 = .ok (.getfield 13, 3) := by decide +kernel
theorem dX11_readCellar_166 : decode cX11_readCellar 166 = .ok (.iload_n 1, 1) := by decide +kernel
theorem dX11_readCellar_167 : decode cX11_readCellar 167 = .ok (.iconst 1, 1) := by decide +kernel
theorem dX11_readCellar_168 : decode cX11_readCellar 168 = .ok (.invokestatic 62, 3) := by decide +kernel
theorem dX11_readCellar_171 : decode cX11_readCellar 171 = .ok (.iload_n 2, 1) := by decide +kernel
theorem dX11_readCellar_172 : decode cX11_readCellar 172 = .ok (.iastore, 1) := by decide +kernel
theorem dX11_readCellar_173 : decode cX11_readCellar 173 = .ok (.aload_n 0, 1) := by decide +kernel
theorem dX11_readCellar_174 : decode cX11_readCellar 174 = .ok (.getfield 13, 3) := by decide +kernel
theorem dX11_readCellar_177 : decode cX11_readCellar 177 = .ok (.iload_n 1, 1) := by decide +kernel
theorem dX11_readCellar_178 : decode cX11_readCellar 178 = .ok (.iconst 2, 1) := by decide +kernel
theorem dX11_readCellar_179 : decode cX11_readCellar 179 = .ok (.invokestatic 62, 3) := by decide +kernel
theorem dX11_readCellar_182 : decode cX11_readCellar 182 = .ok (.iload_n 3, 1) := by decide +kernel
theorem dX11_readCellar_183 : decode cX11_readCellar 183 = .ok (.iastore, 1) := by decide +kernel
theorem dX11_readCellar_184 : decode cX11_readCellar 184 = .ok (.aload_n 0, 1) := by decide +kernel
theorem dX11_readCellar_185 : decode cX11_readCellar 185 = .ok (.getfield 13, 3) := by decide +kernel
theorem dX11_readCellar_188 : decode cX11_readCellar 188 = .ok (.iload_n 1, 1) := by decide +kernel
theorem dX11_readCellar_189 : decode cX11_readCellar 189 = .ok (.iconst 3, 1) := by decide +kernel
theorem dX11_readCellar_190 : decode cX11_readCellar 190 = .ok (.invokestatic 62, 3) := by decide +kernel
theorem dX11_readCellar_193 : decode cX11_readCellar 193 = .ok (.iload 5, 2) := by decide +kernel
theorem dX11_readCellar_195 : decode cX11_readCellar 195 = .ok (.iastore, 1) := by decide +kernel
theorem dX11_readCellar_196 : decode cX11_readCellar 196 = .ok (.aload_n 0, 1) := by decide +kernel
theorem dX11_readCellar_197 : decode cX11_readCellar 197 = .ok (.getfield 13, 3) := by decide +kernel
theorem dX11_readCellar_200 : decode cX11_readCellar 200 = .ok (.iload_n 1, 1) := by decide +kernel
theorem dX11_readCellar_201 : decode cX11_readCellar 201 = .ok (.iconst 4, 1) := by decide +kernel
theorem dX11_readCellar_202 : decode cX11_readCellar 202 = .ok (.invokestatic 62, 3) := by decide +kernel
theorem dX11_readCellar_205 : decode cX11_readCellar 205 = .ok (.iload 6, 2) := by decide +kernel
theorem dX11_readCellar_207 : decode cX11_readCellar 207 = .ok (.iastore, 1) := by decide +kernel
theorem dX11_readCellar_208 : decode cX11_readCellar 208 = .ok (.aload_n 0, 1) := by decide +kernel
theorem dX11_readCellar_209 : decode cX11_readCellar 209 = .ok (.getfield 13, 3) := by decide +kernel
theorem dX11_readCellar_212 : decode cX11_readCellar 212 = .ok (.iconst 1, 1) := by decide +kernel
theorem dX11_readCellar_213 : decode cX11_readCellar 213 = .ok (.dup2, 1) := by decide +kernel
theorem dX11_readCellar_214 : decode cX11_readCellar 214 = .ok (.iaload, 1) := by decide +kernel
theorem dX11_readCellar_215 : decode cX11_readCellar 215 = .ok (.iconst 1, 1) := by decide +kernel
theorem dX11_readCellar_216 : decode cX11_readCellar 216 = .ok (.iadd, 1) := by decide +kernel
theorem dX11_readCellar_217 : decode cX11_readCellar 217 = .ok (.iastore, 1) := by decide +kernel
theorem dX11_readCellar_218 : decode cX11_readCellar 218 = .ok (.iconst 1, 1) := by decide +kernel
theorem dX11_readCellar_219 : decode cX11_readCellar 219 = .ok (.ireturn, 1) := by decide +kernel
theorem dX11_readMenu_0 : decode cX11_readMenu 0 = .ok (.aload_n 0, 1) := by decide +kernel
theorem dX11_readMenu_1 : decode cX11_readMenu 1 = .ok (.iconst 0, 1) := by decide +kernel
theorem dX11_readMenu_2 : decode cX11_readMenu 2 = .ok (.bipush 11, 2) := by decide +kernel
theorem dX11_readMenu_4 : decode cX11_readMenu 4 = .ok (.invokevirtual 122, 3) := by decide +kernel
theorem dX11_readMenu_7 : decode cX11_readMenu 7 = .ok (.istore_n 2, 1) := by decide +kernel
theorem dX11_readMenu_8 : decode cX11_readMenu 8 = .ok (.iload_n 2, 1) := by decide +kernel
theorem dX11_readMenu_9 : decode cX11_readMenu 9 = .ok (.ifCond .ge 5, 3) := by decide +kernel
theorem dX11_readMenu_12 : decode cX11_readMenu 12 = .ok (.iconst 0, 1) := by decide +kernel
theorem dX11_readMenu_13 : decode cX11_readMenu 13 = .ok (.ireturn, 1) := by decide +kernel
theorem dX11_readMenu_14 : decode cX11_readMenu 14 = .ok (.aload_n 0, 1) := by decide +kernel
theorem dX11_readMenu_15 : decode cX11_readMenu 15 = .ok (.getfield 13, 3) := by decide +kernel
theorem dX11_readMenu_18 : decode cX11_readMenu 18 = .ok (.bipush 6, 2) := by decide +kernel
theorem dX11_readMenu_20 : decode cX11_readMenu 20 = .ok (.iload_n 1, 1) := by decide +kernel
theorem dX11_readMenu_21 : decode cX11_readMenu 21 = .ok (.ifCond .eq 17, 3) := by decide +kernel
theorem dX11_readMenu_24 : decode cX11_readMenu 24 = .ok (.aload_n 0, 1) := by decide +kernel
theorem dX11_readMenu_25 : decode cX11_readMenu 25 = .ok (.getfield 13, 3) := by decide +kernel
theorem dX11_readMenu_28 : decode cX11_readMenu 28 = .ok (.bipush 6, 2) := by decide +kernel
theorem dX11_readMenu_30 : decode cX11_readMenu 30 = .ok (.iaload, 1) := by decide +kernel
theorem dX11_readMenu_31 : decode cX11_readMenu 31 = .ok (.iconst 1, 1) := by decide +kernel
theorem dX11_readMenu_32 : decode cX11_readMenu 32 = .ok (.iload_n 2, 1) := by decide +kernel
theorem dX11_readMenu_33 : decode cX11_readMenu 33 = .ok (.ishl, 1) := by decide +kernel
theorem dX11_readMenu_34 : decode cX11_readMenu 34 = .ok (.ior, 1) := by decide +kernel
theorem dX11_readMenu_35 : decode cX11_readMenu 35 = .ok (.goto 16, 3) := by decide +kernel
theorem dX11_readMenu_38 : decode cX11_readMenu 38 = .ok (.aload_n 0, 1) := by decide +kernel
theorem dX11_readMenu_39 : decode cX11_readMenu 39 = .ok (.getfield 13, 3) := by decide +kernel
theorem dX11_readMenu_42 : decode cX11_readMenu 42 = .ok (.bipush 6, 2) := by decide +kernel
theorem dX11_readMenu_44 : decode cX11_readMenu 44 = .ok (.iaload, 1) := by decide +kernel
theorem dX11_readMenu_45 : decode cX11_readMenu 45 = .ok (.iconst 1, 1) := by decide +kernel
theorem dX11_readMenu_46 : decode cX11_readMenu 46 = .ok (.iload_n 2, 1) := by decide +kernel
theorem dX11_readMenu_47 : decode cX11_readMenu 47 = .ok (.ishl, 1) := by decide +kernel
theorem dX11_readMenu_48 : decode cX11_readMenu 48 = .ok (.iconst (-1), 1) := by decide +kernel
theorem dX11_readMenu_49 : decode cX11_readMenu 49 = .ok (.ixor, 1) := by decide +kernel
theorem dX11_readMenu_50 : decode cX11_readMenu 50 = .ok (.iand, 1) := by decide +kernel
theorem dX11_readMenu_51 : decode cX11_readMenu 51 = .ok (.iastore, 1) := by decide +kernel
theorem dX11_readMenu_52 : decode cX11_readMenu 52 = .ok (.iconst 1, 1) := by decide +kernel
theorem dX11_readMenu_53 : decode cX11_readMenu 53 = .ok (.ireturn, 1) := by decide +kernel
theorem dX11_readTableLine_0 : decode cX11_readTableLine 0 = .ok (.aload_n 0, 1) := by decide +kernel
theorem dX11_readTableLine_1 : decode cX11_readTableLine 1 = .ok (.ldc 148, 2) := by decide +kernel
theorem dX11_readTableLine_3 : decode cX11_readTableLine 3 = .ok (.invokevirtual 118, 3) := by decide +kernel
theorem dX11_readTableLine_6 : decode cX11_readTableLine 6 = .ok (.ifCond .eq 8, 3) := by decide +kernel
theorem dX11_readTableLine_9 : decode cX11_readTableLine 9 = .ok (.aload_n 0, 1) := by decide +kernel
theorem dX11_readTableLine_10 : decode cX11_readTableLine 10 = .ok (.invokevirtual 150, 3) := by decide +kernel
theorem dX11_readTableLine_13 : decode cX11_readTableLine 13 = .ok (.ireturn, 1) := by decide +kernel
theorem dX11_readTableLine_14 : decode cX11_readTableLine 14 = .ok (.aload_n 0, 1) := by decide +kernel
theorem dX11_readTableLine_15 : decode cX11_readTableLine 15 = .ok (.ldc 154, 2) := by decide +kernel
theorem dX11_readTableLine_17 : decode cX11_readTableLine 17 = .ok (.invokevirtual 118, 3) := by decide +kernel
theorem dX11_readTableLine_20 : decode cX11_readTableLine 20 = .ok (.ifCond .eq 8, 3) := by decide +kernel
theorem dX11_readTableLine_23 : decode cX11_readTableLine 23 = .ok (.aload_n 0, 1) := by decide +kernel
theorem dX11_readTableLine_24 : decode cX11_readTableLine 24 = .ok (.invokevirtual 156, 3) := by decide +kernel
theorem dX11_readTableLine_27 : decode cX11_readTableLine 27 = .ok (.ireturn, 1) := by decide +kernel
theorem dX11_readTableLine_28 : decode cX11_readTableLine 28 = .ok (.aload_n 0, 1) := by decide +kernel
theorem dX11_readTableLine_29 : decode cX11_readTableLine 29 = .ok (.ldc 159, 2) := by decide +kernel
theorem dX11_readTableLine_31 : decode cX11_readTableLine 31 = .ok (.invokevirtual 118, 3) := by decide +kernel
theorem dX11_readTableLine_34 : decode cX11_readTableLine 34 = .ok (.ifCond .eq 9, 3) := by decide +kernel
theorem dX11_readTableLine_37 : decode cX11_readTableLine 37 = .ok (.aload_n 0, 1) := by decide +kernel
theorem dX11_readTableLine_38 : decode cX11_readTableLine 38 = .ok (.iconst 1, 1) := by decide +kernel
theorem dX11_readTableLine_39 : decode cX11_readTableLine 39 = .ok (.invokevirtual 161, 3) := by decide +kernel
theorem dX11_readTableLine_42 : decode cX11_readTableLine 42 = .ok (.ireturn, 1) := by decide +kernel
theorem dX11_readTableLine_43 : decode cX11_readTableLine 43 = .ok (.aload_n 0, 1) := by decide +kernel
theorem dX11_readTableLine_44 : decode cX11_readTableLine 44 = .ok (.ldc 165, 2) := by decide +kernel
theorem dX11_readTableLine_46 : decode cX11_readTableLine 46 = .ok (.invokevirtual 118, 3) := by decide +kernel
theorem dX11_readTableLine_49 : decode cX11_readTableLine 49 = .ok (.ifCond .eq 9, 3) := by decide +kernel
theorem dX11_readTableLine_52 : decode cX11_readTableLine 52 = .ok (.aload_n 0, 1) := by decide +kernel
theorem dX11_readTableLine_53 : decode cX11_readTableLine 53 = .ok (.iconst 0, 1) := by decide +kernel
theorem dX11_readTableLine_54 : decode cX11_readTableLine 54 = .ok (.invokevirtual 161, 3) := by decide +kernel
theorem dX11_readTableLine_57 : decode cX11_readTableLine 57 = .ok (.ireturn, 1) := by decide +kernel
theorem dX11_readTableLine_58 : decode cX11_readTableLine 58 = .ok (.aload_n 0, 1) := by decide +kernel
theorem dX11_readTableLine_59 : decode cX11_readTableLine 59 = .ok (.ldc 167, 2) := by decide +kernel
theorem dX11_readTableLine_61 : decode cX11_readTableLine 61 = .ok (.invokevirtual 118, 3) := by decide +kernel
theorem dX11_readTableLine_64 : decode cX11_readTableLine 64 = .ok (.ifCond .eq 13, 3) := by decide +kernel
theorem dX11_readTableLine_67 : decode cX11_readTableLine 67 = .ok (.aload_n 0, 1) := by decide +kernel
theorem dX11_readTableLine_68 : decode cX11_readTableLine 68 = .ok (.bipush 7, 2) := by decide +kernel
theorem dX11_readTableLine_70 : decode cX11_readTableLine 70 = .ok (.iconst 0, 1) := by decide +kernel
theorem dX11_readTableLine_71 : decode cX11_readTableLine 71 = .ok (.bipush 100, 2) := by decide +kernel
theorem dX11_readTableLine_73 : decode cX11_readTableLine 73 = .ok (.invokevirtual 169, 3) := by decide +kernel
theorem dX11_readTableLine_76 : decode cX11_readTableLine 76 = .ok (.ireturn, 1) := by decide +kernel
theorem dX11_readTableLine_77 : decode cX11_readTableLine 77 = .ok (.aload_n 0, 1) := by decide +kernel
theorem dX11_readTableLine_78 : decode cX11_readTableLine 78 = .ok (.ldc 172, 2) := by decide +kernel
theorem dX11_readTableLine_80 : decode cX11_readTableLine 80 = .ok (.invokevirtual 118, 3) := by decide +kernel
theorem dX11_readTableLine_83 : decode cX11_readTableLine 83 = .ok (.ifCond .eq 13, 3) := by decide +kernel
theorem dX11_readTableLine_86 : decode cX11_readTableLine 86 = .ok (.aload_n 0, 1) := by decide +kernel
theorem dX11_readTableLine_87 : decode cX11_readTableLine 87 = .ok (.bipush 8, 2) := by decide +kernel
theorem dX11_readTableLine_89 : decode cX11_readTableLine 89 = .ok (.iconst 0, 1) := by decide +kernel
theorem dX11_readTableLine_90 : decode cX11_readTableLine 90 = .ok (.bipush 100, 2) := by decide +kernel
theorem dX11_readTableLine_92 : decode cX11_readTableLine 92 = .ok (.invokevirtual 169, 3) := by decide +kernel
theorem dX11_readTableLine_95 : decode cX11_readTableLine 95 = .ok (.ireturn, 1) := by decide +kernel
theorem dX11_readTableLine_96 : decode cX11_readTableLine 96 = .ok (.aload_n 0, 1) := by decide +kernel
theorem dX11_readTableLine_97 : decode cX11_readTableLine 97 = .ok (.ldc 174, 2) := by decide +kernel
theorem dX11_readTableLine_99 : decode cX11_readTableLine 99 = .ok (.invokevirtual 118, 3) := by decide +kernel
theorem dX11_readTableLine_102 : decode cX11_readTableLine 102 = .ok (.ifCond .eq 18, 3) := by decide +kernel
theorem dX11_readTableLine_105 : decode cX11_readTableLine 105 = .ok (.aload_n 0, 1) := by decide +kernel
theorem dX11_readTableLine_106 : decode cX11_readTableLine 106 = .ok (.iconst 4, 1) := by decide +kernel
theorem dX11_readTableLine_107 : decode cX11_readTableLine 107 = .ok (.iconst 0, 1) := by decide +kernel
theorem dX11_readTableLine_108 : decode cX11_readTableLine 108 = .ok (.bipush 11, 2) := by decide +kernel
theorem dX11_readTableLine_110 : decode cX11_readTableLine 110 = .ok (.invokevirtual 169, 3) := by decide +kernel
theorem dX11_readTableLine_113 : decode cX11_readTableLine 113 = .ok (.ifCond .eq 7, 3) := by decide +kernel
theorem dX11_readTableLine_116 : decode cX11_readTableLine 116 = .ok (.iconst 1, 1) := by decide +kernel
theorem dX11_readTableLine_117 : decode cX11_readTableLine 117 = .ok (.goto 4, 3) := by decide +kernel
theorem dX11_readTableLine_120 : decode cX11_readTableLine 120 = .ok (.iconst 0, 1) := by decide +kernel
theorem dX11_readTableLine_121 : decode cX11_readTableLine 121 = .ok (.ireturn, 1) := by decide +kernel
theorem dX11_emits_0 : decode cX11_emits 0 = .ok (.aload_n 0, 1) := by decide +kernel
theorem dX11_emits_1 : decode cX11_emits 1 = .ok (.getfield 13, 3) := by decide +kernel
theorem dX11_emits_4 : decode cX11_emits 4 = .ok (.sipush 1307, 3) := by decide +kernel
theorem dX11_emits_7 : decode cX11_emits 7 = .ok (.iconst 2, 1) := by decide +kernel
theorem dX11_emits_8 : decode cX11_emits 8 = .ok (.aload_n 0, 1) := by decide +kernel
theorem dX11_emits_9 : decode cX11_emits 9 = .ok (.getfield 176, 3) := by decide +kernel
theorem dX11_emits_12 : decode cX11_emits 12 = .ok (.imul, 1) := by decide +kernel
theorem dX11_emits_13 : decode cX11_emits 13 = .ok (.iadd, 1) := by decide +kernel
theorem dX11_emits_14 : decode cX11_emits 14 = .ok (.iload_n 1, 1) := by decide +kernel
theorem dX11_emits_15 : decode cX11_emits 15 = .ok (.iastore, 1) := by decide +kernel
theorem dX11_emits_16 : decode cX11_emits 16 = .ok (.aload_n 0, 1) := by decide +kernel
theorem dX11_emits_17 : decode cX11_emits 17 = .ok (.getfield 13, 3) := by decide +kernel
theorem dX11_emits_20 : decode cX11_emits 20 = .ok (.sipush 1307, 3) := by decide +kernel
theorem dX11_emits_23 : decode cX11_emits 23 = .ok (.iconst 2, 1) := by decide +kernel
theorem dX11_emits_24 : decode cX11_emits 24 = .ok (.aload_n 0, 1) := by decide +kernel
theorem dX11_emits_25 : decode cX11_emits 25 = .ok (.getfield 176, 3) := by decide +kernel
theorem dX11_emits_28 : decode cX11_emits 28 = .ok (.imul, 1) := by decide +kernel
theorem dX11_emits_29 : decode cX11_emits 29 = .ok (.iadd, 1) := by decide +kernel
theorem dX11_emits_30 : decode cX11_emits 30 = .ok (.iconst 1, 1) := by decide +kernel
theorem dX11_emits_31 : decode cX11_emits 31 = .ok (.iadd, 1) := by decide +kernel
theorem dX11_emits_32 : decode cX11_emits 32 = .ok (.iload_n 2, 1) := by decide +kernel
theorem dX11_emits_33 : decode cX11_emits 33 = .ok (.iastore, 1) := by decide +kernel
theorem dX11_emits_34 : decode cX11_emits 34 = .ok (.aload_n 0, 1) := by decide +kernel
theorem dX11_emits_35 : decode cX11_emits 35 = .ok (.dup, 1) := by decide +kernel
theorem dX11_emits_36 : decode cX11_emits 36 = .ok (.getfield 176, 3) := by decide +kernel
theorem dX11_emits_39 : decode cX11_emits 39 = .ok (.iconst 1, 1) := by decide +kernel
theorem dX11_emits_40 : decode cX11_emits 40 = .ok (.iadd, 1) := by decide +kernel
theorem dX11_emits_41 : decode cX11_emits 41 = .ok (.putfield 176, 3) := by decide +kernel
theorem dX11_emits_44 : decode cX11_emits 44 = .ok (.return_, 1) := by decide +kernel
theorem dX11_readPart_0 : decode cX11_readPart 0 = .ok (.aload_n 0, 1) := by decide +kernel
theorem dX11_readPart_1 : decode cX11_readPart 1 = .ok (.invokevirtual 115, 3) := by decide +kernel
theorem dX11_readPart_4 : decode cX11_readPart 4 = .ok (.aload_n 0, 1) := by decide +kernel
theorem dX11_readPart_5 : decode cX11_readPart 5 = .ok (.getfield 91, 3) := by decide +kernel
theorem dX11_readPart_8 : decode cX11_readPart 8 = .ok (.aload_n 0, 1) := by decide +kernel
theorem dX11_readPart_9 : decode cX11_readPart 9 = .ok (.getfield 100, 3) := by decide +kernel
theorem dX11_readPart_12 : decode cX11_readPart 12 = .ok (.if_icmp .ne 22, 3) := by decide +kernel
theorem dX11_readPart_15 : decode cX11_readPart 15 = .ok (.aload_n 0, 1) := by decide +kernel
theorem dX11_readPart_16 : decode cX11_readPart 16 = .ok (.iconst 0, 1) := by decide +kernel
theorem dX11_readPart_17 : decode cX11_readPart 17 = .ok (.sipush 999, 3) := by decide +kernel
theorem dX11_readPart_20 : decode cX11_readPart 20 = .ok (.invokevirtual 122, 3) := by decide +kernel
theorem dX11_readPart_23 : decode cX11_readPart 23 = .ok (.istore_n 1, 1) := by decide +kernel
theorem dX11_readPart_24 : decode cX11_readPart 24 = .ok (.aload_n 0, 1) := by decide +kernel
theorem dX11_readPart_25 : decode cX11_readPart 25 = .ok (.bipush 8, 2) := by decide +kernel
theorem dX11_readPart_27 : decode cX11_readPart 27 = .ok (.iload_n 1, 1) := by decide +kernel
theorem dX11_readPart_28 : decode cX11_readPart 28 = .ok (.invokevirtual 179, 3) := by decide +kernel
theorem dX11_readPart_31 : decode cX11_readPart 31 = .ok (.goto 89, 3) := by decide +kernel
theorem dX11_readPart_34 : decode cX11_readPart 34 = .ok (.aload_n 0, 1) := by decide +kernel
theorem dX11_readPart_35 : decode cX11_readPart 35 = .ok (.ldc 148, 2) := by decide +kernel
theorem dX11_readPart_37 : decode cX11_readPart 37 = .ok (.invokevirtual 118, 3) := by decide +kernel
theorem dX11_readPart_40 : decode cX11_readPart 40 = .ok (.ifCond .eq 7, 3) := by decide +kernel
theorem dX11_readPart_43 : decode cX11_readPart 43 = .ok (.iconst 0, 1) := by decide +kernel
theorem dX11_readPart_44 : decode cX11_readPart 44 = .ok (.goto 69, 3) := by decide +kernel
theorem dX11_readPart_47 : decode cX11_readPart 47 = .ok (.aload_n 0, 1) := by decide +kernel
theorem dX11_readPart_48 : decode cX11_readPart 48 = .ok (.ldc 154, 2) := by decide +kernel
theorem dX11_readPart_50 : decode cX11_readPart 50 = .ok (.invokevirtual 118, 3) := by decide +kernel
theorem dX11_readPart_53 : decode cX11_readPart 53 = .ok (.ifCond .eq 7, 3) := by decide +kernel
theorem dX11_readPart_56 : decode cX11_readPart 56 = .ok (.iconst 1, 1) := by decide +kernel
theorem dX11_readPart_57 : decode cX11_readPart 57 = .ok (.goto 56, 3) := by decide +kernel
theorem dX11_readPart_60 : decode cX11_readPart 60 = .ok (.aload_n 0, 1) := by decide +kernel
theorem dX11_readPart_61 : decode cX11_readPart 61 = .ok (.ldc 125, 2) := by decide +kernel
theorem dX11_readPart_63 : decode cX11_readPart 63 = .ok (.invokevirtual 118, 3) := by decide +kernel
theorem dX11_readPart_66 : decode cX11_readPart 66 = .ok (.ifCond .eq 7, 3) := by decide +kernel
theorem dX11_readPart_69 : decode cX11_readPart 69 = .ok (.iconst 2, 1) := by decide +kernel
theorem dX11_readPart_70 : decode cX11_readPart 70 = .ok (.goto 43, 3) := by decide +kernel
theorem dX11_readPart_73 : decode cX11_readPart 73 = .ok (.aload_n 0, 1) := by decide +kernel
theorem dX11_readPart_74 : decode cX11_readPart 74 = .ok (.ldc 142, 2) := by decide +kernel
theorem dX11_readPart_76 : decode cX11_readPart 76 = .ok (.invokevirtual 118, 3) := by decide +kernel
theorem dX11_readPart_79 : decode cX11_readPart 79 = .ok (.ifCond .eq 7, 3) := by decide +kernel
theorem dX11_readPart_82 : decode cX11_readPart 82 = .ok (.iconst 3, 1) := by decide +kernel
theorem dX11_readPart_83 : decode cX11_readPart 83 = .ok (.goto 30, 3) := by decide +kernel
theorem dX11_readPart_86 : decode cX11_readPart 86 = .ok (.aload_n 0, 1) := by decide +kernel
theorem dX11_readPart_87 : decode cX11_readPart 87 = .ok (.ldc 183, 2) := by decide +kernel
theorem dX11_readPart_89 : decode cX11_readPart 89 = .ok (.invokevirtual 118, 3) := by decide +kernel
theorem dX11_readPart_92 : decode cX11_readPart 92 = .ok (.ifCond .eq 7, 3) := by decide +kernel
theorem dX11_readPart_95 : decode cX11_readPart 95 = .ok (.iconst 4, 1) := by decide +kernel
theorem dX11_readPart_96 : decode cX11_readPart 96 = .ok (.goto 17, 3) := by decide +kernel
theorem dX11_readPart_99 : decode cX11_readPart 99 = .ok (.aload_n 0, 1) := by decide +kernel
theorem dX11_readPart_100 : decode cX11_readPart 100 = .ok (.ldc 174, 2) := by decide +kernel
theorem dX11_readPart_102 : decode cX11_readPart 102 = .ok (.invokevirtual 118, 3) := by decide +kernel
theorem dX11_readPart_105 : decode cX11_readPart 105 = .ok (.ifCond .eq 7, 3) := by decide +kernel
theorem dX11_readPart_108 : decode cX11_readPart 108 = .ok (.iconst 5, 1) := by decide +kernel
theorem dX11_readPart_109 : decode cX11_readPart 109 = .ok (.goto 4, 3) := by decide +kernel
theorem dX11_readPart_112 : decode cX11_readPart 112 = .ok (.iconst (-1), 1) := by decide +kernel
theorem dX11_readPart_113 : decode cX11_readPart 113 = .ok (.istore_n 1, 1) := by decide +kernel
theorem dX11_readPart_114 : decode cX11_readPart 114 = .ok (.aload_n 0, 1) := by decide +kernel
theorem dX11_readPart_115 : decode cX11_readPart 115 = .ok (.iload_n 1, 1) := by decide +kernel
theorem dX11_readPart_116 : decode cX11_readPart 116 = .ok (.iconst 0, 1) := by decide +kernel
theorem dX11_readPart_117 : decode cX11_readPart 117 = .ok (.invokevirtual 179, 3) := by decide +kernel
theorem dX11_readPart_120 : decode cX11_readPart 120 = .ok (.iload_n 1, 1) := by decide +kernel
theorem dX11_readPart_121 : decode cX11_readPart 121 = .ok (.ifCond .lt 7, 3) := by decide +kernel
theorem dX11_readPart_124 : decode cX11_readPart 124 = .ok (.iconst 1, 1) := by decide +kernel
theorem dX11_readPart_125 : decode cX11_readPart 125 = .ok (.goto 4, 3) := by decide +kernel
theorem dX11_readPart_128 : decode cX11_readPart 128 = .ok (.iconst 0, 1) := by decide +kernel
theorem dX11_readPart_129 : decode cX11_readPart 129 = .ok (.ireturn, 1) := by decide +kernel
theorem dX11_readSum_0 : decode cX11_readSum 0 = .ok (.aload_n 0, 1) := by decide +kernel
theorem dX11_readSum_1 : decode cX11_readSum 1 = .ok (.invokevirtual 185, 3) := by decide +kernel
theorem dX11_readSum_4 : decode cX11_readSum 4 = .ok (.ifCond .ne 5, 3) := by decide +kernel
theorem dX11_readSum_7 : decode cX11_readSum 7 = .ok (.iconst 0, 1) := by decide +kernel
theorem dX11_readSum_8 : decode cX11_readSum 8 = .ok (.ireturn, 1) := by decide +kernel
theorem dX11_readSum_9 : decode cX11_readSum 9 = .ok (.aload_n 0, 1) := by decide +kernel
theorem dX11_readSum_10 : decode cX11_readSum 10 = .ok (.bipush 43, 2) := by decide +kernel
theorem dX11_readSum_12 : decode cX11_readSum 12 = .ok (.invokevirtual 188, 3) := by decide +kernel
theorem dX11_readSum_15 : decode cX11_readSum 15 = .ok (.ifCond .eq 22, 3) := by decide +kernel
theorem dX11_readSum_18 : decode cX11_readSum 18 = .ok (.aload_n 0, 1) := by decide +kernel
theorem dX11_readSum_19 : decode cX11_readSum 19 = .ok (.invokevirtual 185, 3) := by decide +kernel
theorem dX11_readSum_22 : decode cX11_readSum 22 = .ok (.ifCond .ne 5, 3) := by decide +kernel
theorem dX11_readSum_25 : decode cX11_readSum 25 = .ok (.iconst 0, 1) := by decide +kernel
theorem dX11_readSum_26 : decode cX11_readSum 26 = .ok (.ireturn, 1) := by decide +kernel
theorem dX11_readSum_27 : decode cX11_readSum 27 = .ok (.aload_n 0, 1) := by decide +kernel
theorem dX11_readSum_28 : decode cX11_readSum 28 = .ok (.bipush 9, 2) := by decide +kernel
theorem dX11_readSum_30 : decode cX11_readSum 30 = .ok (.iconst 0, 1) := by decide +kernel
theorem dX11_readSum_31 : decode cX11_readSum 31 = .ok (.invokevirtual 179, 3) := by decide +kernel
theorem dX11_readSum_34 : decode cX11_readSum 34 = .ok (.goto (-25), 3) := by decide +kernel
theorem dX11_readSum_37 : decode cX11_readSum 37 = .ok (.iconst 1, 1) := by decide +kernel
theorem dX11_readSum_38 : decode cX11_readSum 38 = .ok (.ireturn, 1) := by decide +kernel
theorem dX11_readTag_0 : decode cX11_readTag 0 = .ok (.aload_n 0, 1) := by decide +kernel
theorem dX11_readTag_1 : decode cX11_readTag 1 = .ok (.invokevirtual 115, 3) := by decide +kernel
theorem dX11_readTag_4 : decode cX11_readTag 4 = .ok (.aload_n 0, 1) := by decide +kernel
theorem dX11_readTag_5 : decode cX11_readTag 5 = .ok (.ldc 133, 2) := by decide +kernel
theorem dX11_readTag_7 : decode cX11_readTag 7 = .ok (.invokevirtual 118, 3) := by decide +kernel
theorem dX11_readTag_10 : decode cX11_readTag 10 = .ok (.ifCond .eq 8, 3) := by decide +kernel
theorem dX11_readTag_13 : decode cX11_readTag 13 = .ok (.bipush 6, 2) := by decide +kernel
theorem dX11_readTag_15 : decode cX11_readTag 15 = .ok (.goto 18, 3) := by decide +kernel
theorem dX11_readTag_18 : decode cX11_readTag 18 = .ok (.aload_n 0, 1) := by decide +kernel
theorem dX11_readTag_19 : decode cX11_readTag 19 = .ok (.ldc 191, 2) := by decide +kernel
theorem dX11_readTag_21 : decode cX11_readTag 21 = .ok (.invokevirtual 118, 3) := by decide +kernel
theorem dX11_readTag_24 : decode cX11_readTag 24 = .ok (.ifCond .eq 8, 3) := by decide +kernel
theorem dX11_readTag_27 : decode cX11_readTag 27 = .ok (.bipush 7, 2) := by decide +kernel
theorem dX11_readTag_29 : decode cX11_readTag 29 = .ok (.goto 4, 3) := by decide +kernel
theorem dX11_readTag_32 : decode cX11_readTag 32 = .ok (.iconst (-1), 1) := by decide +kernel
theorem dX11_readTag_33 : decode cX11_readTag 33 = .ok (.istore_n 1, 1) := by decide +kernel
theorem dX11_readTag_34 : decode cX11_readTag 34 = .ok (.iload_n 1, 1) := by decide +kernel
theorem dX11_readTag_35 : decode cX11_readTag 35 = .ok (.ifCond .lt 12, 3) := by decide +kernel
theorem dX11_readTag_38 : decode cX11_readTag 38 = .ok (.aload_n 0, 1) := by decide +kernel
theorem dX11_readTag_39 : decode cX11_readTag 39 = .ok (.iload_n 1, 1) := by decide +kernel
theorem dX11_readTag_40 : decode cX11_readTag 40 = .ok (.iconst 0, 1) := by decide +kernel
theorem dX11_readTag_41 : decode cX11_readTag 41 = .ok (.invokevirtual 179, 3) := by decide +kernel
theorem dX11_readTag_44 : decode cX11_readTag 44 = .ok (.goto 11, 3) := by decide +kernel
theorem dX11_readTag_47 : decode cX11_readTag 47 = .ok (.aload_n 0, 1) := by decide +kernel
theorem dX11_readTag_48 : decode cX11_readTag 48 = .ok (.aload_n 0, 1) := by decide +kernel
theorem dX11_readTag_49 : decode cX11_readTag 49 = .ok (.getfield 100, 3) := by decide +kernel
theorem dX11_readTag_52 : decode cX11_readTag 52 = .ok (.putfield 91, 3) := by decide +kernel
theorem dX11_readTag_55 : decode cX11_readTag 55 = .ok (.iload_n 1, 1) := by decide +kernel
theorem dX11_readTag_56 : decode cX11_readTag 56 = .ok (.ifCond .lt 7, 3) := by decide +kernel
theorem dX11_readTag_59 : decode cX11_readTag 59 = .ok (.iconst 1, 1) := by decide +kernel
theorem dX11_readTag_60 : decode cX11_readTag 60 = .ok (.goto 4, 3) := by decide +kernel
theorem dX11_readTag_63 : decode cX11_readTag 63 = .ok (.iconst 0, 1) := by decide +kernel
theorem dX11_readTag_64 : decode cX11_readTag 64 = .ok (.ireturn, 1) := by decide +kernel
theorem dX11_readAtom_0 : decode cX11_readAtom 0 = .ok (.aload_n 0, 1) := by decide +kernel
theorem dX11_readAtom_1 : decode cX11_readAtom 1 = .ok (.bipush 40, 2) := by decide +kernel
theorem dX11_readAtom_3 : decode cX11_readAtom 3 = .ok (.invokevirtual 188, 3) := by decide +kernel
theorem dX11_readAtom_6 : decode cX11_readAtom 6 = .ok (.ifCond .eq 50, 3) := by decide +kernel
theorem dX11_readAtom_9 : decode cX11_readAtom 9 = .ok (.aload_n 0, 1) := by decide +kernel
theorem dX11_readAtom_10 : decode cX11_readAtom 10 = .ok (.getfield 193, 3) := by decide +kernel
theorem dX11_readAtom_13 : decode cX11_readAtom 13 = .ok (.bipush 6, 2) := by decide +kernel
theorem dX11_readAtom_15 : decode cX11_readAtom 15 = .ok (.if_icmp .ne 5, 3) := by decide +kernel
theorem dX11_readAtom_18 : decode cX11_readAtom 18 = .ok (.iconst 0, 1) := by decide +kernel
theorem dX11_readAtom_19 : decode cX11_readAtom 19 = .ok (.ireturn, 1) := by decide +kernel
theorem dX11_readAtom_20 : decode cX11_readAtom 20 = .ok (.aload_n 0, 1) := by decide +kernel
theorem dX11_readAtom_21 : decode cX11_readAtom 21 = .ok (.dup, 1) := by decide +kernel
theorem dX11_readAtom_22 : decode cX11_readAtom 22 = .ok (.getfield 193, 3) := by decide +kernel
theorem dX11_readAtom_25 : decode cX11_readAtom 25 = .ok (.iconst 1, 1) := by decide +kernel
theorem dX11_readAtom_26 : decode cX11_readAtom 26 = .ok (.iadd, 1) := by decide +kernel
theorem dX11_readAtom_27 : decode cX11_readAtom 27 = .ok (.putfield 193, 3) := by decide +kernel
theorem dX11_readAtom_30 : decode cX11_readAtom 30 = .ok (.aload_n 0, 1) := by decide +kernel
theorem dX11_readAtom_31 : decode cX11_readAtom 31 = .ok (.invokevirtual 196, 3) := by decide +kernel
theorem dX11_readAtom_34 : decode cX11_readAtom 34 = .ok (.ifCond .ne 5, 3) := by decide +kernel
theorem dX11_readAtom_37 : decode cX11_readAtom 37 = .ok (.iconst 0, 1) := by decide +kernel
theorem dX11_readAtom_38 : decode cX11_readAtom 38 = .ok (.ireturn, 1) := by decide +kernel
theorem dX11_readAtom_39 : decode cX11_readAtom 39 = .ok (.aload_n 0, 1) := by decide +kernel
theorem dX11_readAtom_40 : decode cX11_readAtom 40 = .ok (.dup, 1) := by decide +kernel
theorem dX11_readAtom_41 : decode cX11_readAtom 41 = .ok (.getfield 193, 3) := by decide +kernel
theorem dX11_readAtom_44 : decode cX11_readAtom 44 = .ok (.iconst 1, 1) := by decide +kernel
theorem dX11_readAtom_45 : decode cX11_readAtom 45 = .ok (.isub, 1) := by decide +kernel
theorem dX11_readAtom_46 : decode cX11_readAtom 46 = .ok (.putfield 193, 3) := by decide +kernel
theorem dX11_readAtom_49 : decode cX11_readAtom 49 = .ok (.aload_n 0, 1) := by decide +kernel
theorem dX11_readAtom_50 : decode cX11_readAtom 50 = .ok (.bipush 41, 2) := by decide +kernel
theorem dX11_readAtom_52 : decode cX11_readAtom 52 = .ok (.invokevirtual 188, 3) := by decide +kernel
theorem dX11_readAtom_55 : decode cX11_readAtom 55 = .ok (.ireturn, 1) := by decide +kernel
theorem dX11_readAtom_56 : decode cX11_readAtom 56 = .ok (.aload_n 0, 1) := by decide +kernel
theorem dX11_readAtom_57 : decode cX11_readAtom 57 = .ok (.ldc 199, 2) := by decide +kernel
theorem dX11_readAtom_59 : decode cX11_readAtom 59 = .ok (.invokevirtual 135, 3) := by decide +kernel
theorem dX11_readAtom_62 : decode cX11_readAtom 62 = .ok (.ifCond .eq 52, 3) := by decide +kernel
theorem dX11_readAtom_65 : decode cX11_readAtom 65 = .ok (.aload_n 0, 1) := by decide +kernel
theorem dX11_readAtom_66 : decode cX11_readAtom 66 = .ok (.getfield 193, 3) := by decide +kernel
theorem dX11_readAtom_69 : decode cX11_readAtom 69 = .ok (.bipush 6, 2) := by decide +kernel
theorem dX11_readAtom_71 : decode cX11_readAtom 71 = .ok (.if_icmp .ne 5, 3) := by decide +kernel
theorem dX11_readAtom_74 : decode cX11_readAtom 74 = .ok (.iconst 0, 1) := by decide +kernel
theorem dX11_readAtom_75 : decode cX11_readAtom 75 = .ok (.ireturn, 1) := by decide +kernel
theorem dX11_readAtom_76 : decode cX11_readAtom 76 = .ok (.aload_n 0, 1) := by decide +kernel
theorem dX11_readAtom_77 : decode cX11_readAtom 77 = .ok (.dup, 1) := by decide +kernel
theorem dX11_readAtom_78 : decode cX11_readAtom 78 = .ok (.getfield 193, 3) := by decide +kernel
theorem dX11_readAtom_81 : decode cX11_readAtom 81 = .ok (.iconst 1, 1) := by decide +kernel
theorem dX11_readAtom_82 : decode cX11_readAtom 82 = .ok (.iadd, 1) := by decide +kernel
theorem dX11_readAtom_83 : decode cX11_readAtom 83 = .ok (.putfield 193, 3) := by decide +kernel
theorem dX11_readAtom_86 : decode cX11_readAtom 86 = .ok (.aload_n 0, 1) := by decide +kernel
theorem dX11_readAtom_87 : decode cX11_readAtom 87 = .ok (.invokevirtual 201, 3) := by decide +kernel
theorem dX11_readAtom_90 : decode cX11_readAtom 90 = .ok (.ifCond .ne 5, 3) := by decide +kernel
theorem dX11_readAtom_93 : decode cX11_readAtom 93 = .ok (.iconst 0, 1) := by decide +kernel
theorem dX11_readAtom_94 : decode cX11_readAtom 94 = .ok (.ireturn, 1) := by decide +kernel
theorem dX11_readAtom_95 : decode cX11_readAtom 95 = .ok (.aload_n 0, 1) := by decide +kernel
theorem dX11_readAtom_96 : decode cX11_readAtom 96 = .ok (.dup, 1) := by decide +kernel
theorem dX11_readAtom_97 : decode cX11_readAtom 97 = .ok (.getfield 193, 3) := by decide +kernel
theorem dX11_readAtom_100 : decode cX11_readAtom 100 = .ok (.iconst 1, 1) := by decide +kernel
theorem dX11_readAtom_101 : decode cX11_readAtom 101 = .ok (.isub, 1) := by decide +kernel
theorem dX11_readAtom_102 : decode cX11_readAtom 102 = .ok (.putfield 193, 3) := by decide +kernel
theorem dX11_readAtom_105 : decode cX11_readAtom 105 = .ok (.aload_n 0, 1) := by decide +kernel
theorem dX11_readAtom_106 : decode cX11_readAtom 106 = .ok (.bipush 12, 2) := by decide +kernel
theorem dX11_readAtom_108 : decode cX11_readAtom 108 = .ok (.iconst 0, 1) := by decide +kernel
theorem dX11_readAtom_109 : decode cX11_readAtom 109 = .ok (.invokevirtual 179, 3) := by decide +kernel
theorem dX11_readAtom_112 : decode cX11_readAtom 112 = .ok (.iconst 1, 1) := by decide +kernel
theorem dX11_readAtom_113 : decode cX11_readAtom 113 = .ok (.ireturn, 1) := by decide +kernel
theorem dX11_readAtom_114 : decode cX11_readAtom 114 = .ok (.aload_n 0, 1) := by decide +kernel
theorem dX11_readAtom_115 : decode cX11_readAtom 115 = .ok (.invokevirtual 204, 3) := by decide +kernel
theorem dX11_readAtom_118 : decode cX11_readAtom 118 = .ok (.ifCond .eq 5, 3) := by decide +kernel
theorem dX11_readAtom_121 : decode cX11_readAtom 121 = .ok (.iconst 1, 1) := by decide +kernel
theorem dX11_readAtom_122 : decode cX11_readAtom 122 = .ok (.ireturn, 1) := by decide +kernel
theorem dX11_readAtom_123 : decode cX11_readAtom 123 = .ok (.aload_n 0, 1) := by decide +kernel
theorem dX11_readAtom_124 : decode cX11_readAtom 124 = .ok (.invokevirtual 207, 3) := by decide +kernel
theorem dX11_readAtom_127 : decode cX11_readAtom 127 = .ok (.ifCond .ne 5, 3) := by decide +kernel
theorem dX11_readAtom_130 : decode cX11_readAtom 130 = .ok (.iconst 0, 1) := by decide +kernel
theorem dX11_readAtom_131 : decode cX11_readAtom 131 = .ok (.ireturn, 1) := by decide +kernel
theorem dX11_readAtom_132 : decode cX11_readAtom 132 = .ok (.aload_n 0, 1) := by decide +kernel
theorem dX11_readAtom_133 : decode cX11_readAtom 133 = .ok (.bipush 60, 2) := by decide +kernel
theorem dX11_readAtom_135 : decode cX11_readAtom 135 = .ok (.invokevirtual 188, 3) := by decide +kernel
theorem dX11_readAtom_138 : decode cX11_readAtom 138 = .ok (.istore_n 1, 1) := by decide +kernel
theorem dX11_readAtom_139 : decode cX11_readAtom 139 = .ok (.iload_n 1, 1) := by decide +kernel
theorem dX11_readAtom_140 : decode cX11_readAtom 140 = .ok (.ifCond .ne 12, 3) := by decide +kernel
theorem dX11_readAtom_143 : decode cX11_readAtom 143 = .ok (.aload_n 0, 1) := by decide +kernel
theorem dX11_readAtom_144 : decode cX11_readAtom 144 = .ok (.bipush 62, 2) := by decide +kernel
theorem dX11_readAtom_146 : decode cX11_readAtom 146 = .ok (.invokevirtual 188, 3) := by decide +kernel
theorem dX11_readAtom_149 : decode cX11_readAtom 149 = .ok (.ifCond .eq 10, 3) := by decide +kernel
theorem dX11_readAtom_152 : decode cX11_readAtom 152 = .ok (.aload_n 0, 1) := by decide +kernel
theorem dX11_readAtom_153 : decode cX11_readAtom 153 = .ok (.invokevirtual 207, 3) := by decide +kernel
theorem dX11_readAtom_156 : decode cX11_readAtom 156 = .ok (.ifCond .ne 5, 3) := by decide +kernel
theorem dX11_readAtom_159 : decode cX11_readAtom 159 = .ok (.iconst 0, 1) := by decide +kernel
theorem dX11_readAtom_160 : decode cX11_readAtom 160 = .ok (.ireturn, 1) := by decide +kernel
theorem dX11_readAtom_161 : decode cX11_readAtom 161 = .ok (.aload_n 0, 1) := by decide +kernel
theorem dX11_readAtom_162 : decode cX11_readAtom 162 = .ok (.iload_n 1, 1) := by decide +kernel
theorem dX11_readAtom_163 : decode cX11_readAtom 163 = .ok (.ifCond .eq 8, 3) := by decide +kernel
theorem dX11_readAtom_166 : decode cX11_readAtom 166 = .ok (.bipush 10, 2) := by decide +kernel
theorem dX11_readAtom_168 : decode cX11_readAtom 168 = .ok (.goto 5, 3) := by decide +kernel
theorem dX11_readAtom_171 : decode cX11_readAtom 171 = .ok (.bipush 11, 2) := by decide +kernel
theorem dX11_readAtom_173 : decode cX11_readAtom 173 = .ok (.iconst 0, 1) := by decide +kernel
theorem dX11_readAtom_174 : decode cX11_readAtom 174 = .ok (.invokevirtual 179, 3) := by decide +kernel
theorem dX11_readAtom_177 : decode cX11_readAtom 177 = .ok (.iconst 1, 1) := by decide +kernel
theorem dX11_readAtom_178 : decode cX11_readAtom 178 = .ok (.ireturn, 1) := by decide +kernel
theorem dX11_readAllOf_0 : decode cX11_readAllOf 0 = .ok (.aload_n 0, 1) := by decide +kernel
theorem dX11_readAllOf_1 : decode cX11_readAllOf 1 = .ok (.invokevirtual 201, 3) := by decide +kernel
theorem dX11_readAllOf_4 : decode cX11_readAllOf 4 = .ok (.ifCond .ne 5, 3) := by decide +kernel
theorem dX11_readAllOf_7 : decode cX11_readAllOf 7 = .ok (.iconst 0, 1) := by decide +kernel
theorem dX11_readAllOf_8 : decode cX11_readAllOf 8 = .ok (.ireturn, 1) := by decide +kernel
theorem dX11_readAllOf_9 : decode cX11_readAllOf 9 = .ok (.aload_n 0, 1) := by decide +kernel
theorem dX11_readAllOf_10 : decode cX11_readAllOf 10 = .ok (.ldc 210, 2) := by decide +kernel
theorem dX11_readAllOf_12 : decode cX11_readAllOf 12 = .ok (.invokevirtual 135, 3) := by decide +kernel
theorem dX11_readAllOf_15 : decode cX11_readAllOf 15 = .ok (.ifCond .eq 22, 3) := by decide +kernel
theorem dX11_readAllOf_18 : decode cX11_readAllOf 18 = .ok (.aload_n 0, 1) := by decide +kernel
theorem dX11_readAllOf_19 : decode cX11_readAllOf 19 = .ok (.invokevirtual 201, 3) := by decide +kernel
theorem dX11_readAllOf_22 : decode cX11_readAllOf 22 = .ok (.ifCond .ne 5, 3) := by decide +kernel
theorem dX11_readAllOf_25 : decode cX11_readAllOf 25 = .ok (.iconst 0, 1) := by decide +kernel
theorem dX11_readAllOf_26 : decode cX11_readAllOf 26 = .ok (.ireturn, 1) := by decide +kernel
theorem dX11_readAllOf_27 : decode cX11_readAllOf 27 = .ok (.aload_n 0, 1) := by decide +kernel
theorem dX11_readAllOf_28 : decode cX11_readAllOf 28 = .ok (.bipush 13, 2) := by decide +kernel
theorem dX11_readAllOf_30 : decode cX11_readAllOf 30 = .ok (.iconst 0, 1) := by decide +kernel
theorem dX11_readAllOf_31 : decode cX11_readAllOf 31 = .ok (.invokevirtual 179, 3) := by decide +kernel
theorem dX11_readAllOf_34 : decode cX11_readAllOf 34 = .ok (.goto (-25), 3) := by decide +kernel
theorem dX11_readAllOf_37 : decode cX11_readAllOf 37 = .ok (.iconst 1, 1) := by decide +kernel
theorem dX11_readAllOf_38 : decode cX11_readAllOf 38 = .ok (.ireturn, 1) := by decide +kernel
theorem dX11_readCond_0 : decode cX11_readCond 0 = .ok (.aload_n 0, 1) := by decide +kernel
theorem dX11_readCond_1 : decode cX11_readCond 1 = .ok (.invokevirtual 212, 3) := by decide +kernel
theorem dX11_readCond_4 : decode cX11_readCond 4 = .ok (.ifCond .ne 5, 3) := by decide +kernel
theorem dX11_readCond_7 : decode cX11_readCond 7 = .ok (.iconst 0, 1) := by decide +kernel
theorem dX11_readCond_8 : decode cX11_readCond 8 = .ok (.ireturn, 1) := by decide +kernel
theorem dX11_readCond_9 : decode cX11_readCond 9 = .ok (.aload_n 0, 1) := by decide +kernel
theorem dX11_readCond_10 : decode cX11_readCond 10 = .ok (.ldc 215, 2) := by decide +kernel
theorem dX11_readCond_12 : decode cX11_readCond 12 = .ok (.invokevirtual 135, 3) := by decide +kernel
theorem dX11_readCond_15 : decode cX11_readCond 15 = .ok (.ifCond .eq 22, 3) := by decide +kernel
theorem dX11_readCond_18 : decode cX11_readCond 18 = .ok (.aload_n 0, 1) := by decide +kernel
theorem dX11_readCond_19 : decode cX11_readCond 19 = .ok (.invokevirtual 212, 3) := by decide +kernel
theorem dX11_readCond_22 : decode cX11_readCond 22 = .ok (.ifCond .ne 5, 3) := by decide +kernel
theorem dX11_readCond_25 : decode cX11_readCond 25 = .ok (.iconst 0, 1) := by decide +kernel
theorem dX11_readCond_26 : decode cX11_readCond 26 = .ok (.ireturn, 1) := by decide +kernel
theorem dX11_readCond_27 : decode cX11_readCond 27 = .ok (.aload_n 0, 1) := by decide +kernel
theorem dX11_readCond_28 : decode cX11_readCond 28 = .ok (.bipush 14, 2) := by decide +kernel
theorem dX11_readCond_30 : decode cX11_readCond 30 = .ok (.iconst 0, 1) := by decide +kernel
theorem dX11_readCond_31 : decode cX11_readCond 31 = .ok (.invokevirtual 179, 3) := by decide +kernel
theorem dX11_readCond_34 : decode cX11_readCond 34 = .ok (.goto (-25), 3) := by decide +kernel
theorem dX11_readCond_37 : decode cX11_readCond 37 = .ok (.iconst 1, 1) := by decide +kernel
theorem dX11_readCond_38 : decode cX11_readCond 38 = .ok (.ireturn, 1) := by decide +kernel
theorem dX11_readLawLine_0 : decode cX11_readLawLine 0 = .ok (.sipush 1259, 3) := by decide +kernel
theorem dX11_readLawLine_3 : decode cX11_readLawLine 3 = .ok (.iconst 4, 1) := by decide +kernel
theorem dX11_readLawLine_4 : decode cX11_readLawLine 4 = .ok (.iload_n 1, 1) := by decide +kernel
theorem dX11_readLawLine_5 : decode cX11_readLawLine 5 = .ok (.imul, 1) := by decide +kernel
theorem dX11_readLawLine_6 : decode cX11_readLawLine 6 = .ok (.iadd, 1) := by decide +kernel
theorem dX11_readLawLine_7 : decode cX11_readLawLine 7 = .ok (.istore_n 2, 1) := by decide +kernel
theorem dX11_readLawLine_8 : decode cX11_readLawLine 8 = .ok (.aload_n 0, 1) := by decide +kernel
theorem dX11_readLawLine_9 : decode cX11_readLawLine 9 = .ok (.getfield 13, 3) := by decide +kernel
theorem dX11_readLawLine_12 : decode cX11_readLawLine 12 = .ok (.iload_n 2, 1) := by decide +kernel
theorem dX11_readLawLine_13 : decode cX11_readLawLine 13 = .ok (.aload_n 0, 1) := by decide +kernel
theorem dX11_readLawLine_14 : decode cX11_readLawLine 14 = .ok (.ldc 217, 2) := by decide +kernel
theorem dX11_readLawLine_16 : decode cX11_readLawLine 16 = .ok (.invokevirtual 118, 3) := by decide +kernel
theorem dX11_readLawLine_19 : decode cX11_readLawLine 19 = .ok (.ifCond .eq 7, 3) := by decide +kernel
theorem dX11_readLawLine_22 : decode cX11_readLawLine 22 = .ok (.iconst 0, 1) := by decide +kernel
theorem dX11_readLawLine_23 : decode cX11_readLawLine 23 = .ok (.goto 30, 3) := by decide +kernel
theorem dX11_readLawLine_26 : decode cX11_readLawLine 26 = .ok (.aload_n 0, 1) := by decide +kernel
theorem dX11_readLawLine_27 : decode cX11_readLawLine 27 = .ok (.ldc 219, 2) := by decide +kernel
theorem dX11_readLawLine_29 : decode cX11_readLawLine 29 = .ok (.invokevirtual 118, 3) := by decide +kernel
theorem dX11_readLawLine_32 : decode cX11_readLawLine 32 = .ok (.ifCond .eq 7, 3) := by decide +kernel
theorem dX11_readLawLine_35 : decode cX11_readLawLine 35 = .ok (.iconst 1, 1) := by decide +kernel
theorem dX11_readLawLine_36 : decode cX11_readLawLine 36 = .ok (.goto 17, 3) := by decide +kernel
theorem dX11_readLawLine_39 : decode cX11_readLawLine 39 = .ok (.aload_n 0, 1) := by decide +kernel
theorem dX11_readLawLine_40 : decode cX11_readLawLine 40 = .ok (.ldc 144, 2) := by decide +kernel
theorem dX11_readLawLine_42 : decode cX11_readLawLine 42 = .ok (.invokevirtual 118, 3) := by decide +kernel
theorem dX11_readLawLine_45 : decode cX11_readLawLine 45 = .ok (.ifCond .eq 7, 3) := by decide +kernel
theorem dX11_readLawLine_48 : decode cX11_readLawLine 48 = .ok (.iconst 2, 1) := by decide +kernel
theorem dX11_readLawLine_49 : decode cX11_readLawLine 49 = .ok (.goto 4, 3) := by decide +kernel
theorem dX11_readLawLine_52 : decode cX11_readLawLine 52 = .ok (.iconst (-1), 1) := by decide +kernel
theorem dX11_readLawLine_53 : decode cX11_readLawLine 53 = .ok (.iastore, 1) := by decide +kernel
theorem dX11_readLawLine_54 : decode cX11_readLawLine 54 = .ok (.aload_n 0, 1) := by decide +kernel
theorem dX11_readLawLine_55 : decode cX11_readLawLine 55 = .ok (.getfield 13, 3) := by decide +kernel
theorem dX11_readLawLine_58 : decode cX11_readLawLine 58 = .ok (.iload_n 2, 1) := by decide +kernel
theorem dX11_readLawLine_59 : decode cX11_readLawLine 59 = .ok (.iaload, 1) := by decide +kernel
theorem dX11_readLawLine_60 : decode cX11_readLawLine 60 = .ok (.ifCond .ge 5, 3) := by decide +kernel
theorem dX11_readLawLine_63 : decode cX11_readLawLine 63 = .ok (.iconst 0, 1) := by decide +kernel
theorem dX11_readLawLine_64 : decode cX11_readLawLine 64 = .ok (.ireturn, 1) := by decide +kernel
theorem dX11_readLawLine_65 : decode cX11_readLawLine 65 = .ok (.aload_n 0, 1) := by decide +kernel
theorem dX11_readLawLine_66 : decode cX11_readLawLine 66 = .ok (.getfield 13, 3) := by decide +kernel
theorem dX11_readLawLine_69 : decode cX11_readLawLine 69 = .ok (.iload_n 2, 1) := by decide +kernel
theorem dX11_readLawLine_70 : decode cX11_readLawLine 70 = .ok (.iconst 1, 1) := by decide +kernel
theorem dX11_readLawLine_71 : decode cX11_readLawLine 71 = .ok (.iadd, 1) := by decide +kernel
theorem dX11_readLawLine_72 : decode cX11_readLawLine 72 = .ok (.aload_n 0, 1) := by decide +kernel
theorem dX11_readLawLine_73 : decode cX11_readLawLine 73 = .ok (.iconst 0, 1) := by decide +kernel
theorem dX11_readLawLine_74 : decode cX11_readLawLine 74 = .ok (.bipush 30, 2) := by decide +kernel
theorem dX11_readLawLine_76 : decode cX11_readLawLine 76 = .ok (.invokevirtual 122, 3) := by decide +kernel
theorem dX11_readLawLine_79 : decode cX11_readLawLine 79 = .ok (.iastore, 1) := by decide +kernel
theorem dX11_readLawLine_80 : decode cX11_readLawLine 80 = .ok (.aload_n 0, 1) := by decide +kernel
theorem dX11_readLawLine_81 : decode cX11_readLawLine 81 = .ok (.getfield 13, 3) := by decide +kernel
theorem dX11_readLawLine_84 : decode cX11_readLawLine 84 = .ok (.iload_n 2, 1) := by decide +kernel
theorem dX11_readLawLine_85 : decode cX11_readLawLine 85 = .ok (.iconst 1, 1) := by decide +kernel
theorem dX11_readLawLine_86 : decode cX11_readLawLine 86 = .ok (.iadd, 1) := by decide +kernel
theorem dX11_readLawLine_87 : decode cX11_readLawLine 87 = .ok (.iaload, 1) := by decide +kernel
theorem dX11_readLawLine_88 : decode cX11_readLawLine 88 = .ok (.ifCond .ge 5, 3) := by decide +kernel
theorem dX11_readLawLine_91 : decode cX11_readLawLine 91 = .ok (.iconst 0, 1) := by decide +kernel
theorem dX11_readLawLine_92 : decode cX11_readLawLine 92 = .ok (.ireturn, 1) := by decide +kernel
theorem dX11_readLawLine_93 : decode cX11_readLawLine 93 = .ok (.aload_n 0, 1) := by decide +kernel
theorem dX11_readLawLine_94 : decode cX11_readLawLine 94 = .ok (.getfield 13, 3) := by decide +kernel
theorem dX11_readLawLine_97 : decode cX11_readLawLine 97 = .ok (.iload_n 2, 1) := by decide +kernel
theorem dX11_readLawLine_98 : decode cX11_readLawLine 98 = .ok (.iconst 2, 1) := by decide +kernel
theorem dX11_readLawLine_99 : decode cX11_readLawLine 99 = .ok (.iadd, 1) := by decide +kernel
theorem dX11_readLawLine_100 : decode cX11_readLawLine 100 = .ok (.aload_n 0, 1) := by decide +kernel
theorem dX11_readLawLine_101 : decode cX11_readLawLine 101 = .ok (.getfield 176, 3) := by decide +kernel
theorem dX11_readLawLine_104 : decode cX11_readLawLine 104 = .ok (.iastore, 1) := by decide +kernel
theorem dX11_readLawLine_105 : decode cX11_readLawLine 105 = .ok (.aload_n 0, 1) := by decide +kernel
theorem dX11_readLawLine_106 : decode cX11_readLawLine 106 = .ok (.iconst 0, 1) := by decide +kernel
theorem dX11_readLawLine_107 : decode cX11_readLawLine 107 = .ok (.putfield 193, 3) := by decide +kernel
theorem dX11_readLawLine_110 : decode cX11_readLawLine 110 = .ok (.aload_n 0, 1) := by decide +kernel
theorem dX11_readLawLine_111 : decode cX11_readLawLine 111 = .ok (.ldc 221, 2) := by decide +kernel
theorem dX11_readLawLine_113 : decode cX11_readLawLine 113 = .ok (.invokevirtual 135, 3) := by decide +kernel
theorem dX11_readLawLine_116 : decode cX11_readLawLine 116 = .ok (.ifCond .eq 12, 3) := by decide +kernel
theorem dX11_readLawLine_119 : decode cX11_readLawLine 119 = .ok (.aload_n 0, 1) := by decide +kernel
theorem dX11_readLawLine_120 : decode cX11_readLawLine 120 = .ok (.invokevirtual 196, 3) := by decide +kernel
theorem dX11_readLawLine_123 : decode cX11_readLawLine 123 = .ok (.ifCond .ne 5, 3) := by decide +kernel
theorem dX11_readLawLine_126 : decode cX11_readLawLine 126 = .ok (.iconst 0, 1) := by decide +kernel
theorem dX11_readLawLine_127 : decode cX11_readLawLine 127 = .ok (.ireturn, 1) := by decide +kernel
theorem dX11_readLawLine_128 : decode cX11_readLawLine 128 = .ok (.aload_n 0, 1) := by decide +kernel
theorem dX11_readLawLine_129 : decode cX11_readLawLine 129 = .ok (.getfield 13, 3) := by decide +kernel
theorem dX11_readLawLine_132 : decode cX11_readLawLine 132 = .ok (.iload_n 2, 1) := by decide +kernel
theorem dX11_readLawLine_133 : decode cX11_readLawLine 133 = .ok (.iconst 3, 1) := by decide +kernel
theorem dX11_readLawLine_134 : decode cX11_readLawLine 134 = .ok (.iadd, 1) := by decide +kernel
theorem dX11_readLawLine_135 : decode cX11_readLawLine 135 = .ok (.aload_n 0, 1) := by decide +kernel
theorem dX11_readLawLine_136 : decode cX11_readLawLine 136 = .ok (.getfield 176, 3) := by decide +kernel
theorem dX11_readLawLine_139 : decode cX11_readLawLine 139 = .ok (.iastore, 1) := by decide +kernel
theorem dX11_readLawLine_140 : decode cX11_readLawLine 140 = .ok (.iconst 1, 1) := by decide +kernel
theorem dX11_readLawLine_141 : decode cX11_readLawLine 141 = .ok (.ireturn, 1) := by decide +kernel
theorem dX11_readLine_0 : decode cX11_readLine 0 = .ok (.aload_n 0, 1) := by decide +kernel
theorem dX11_readLine_1 : decode cX11_readLine 1 = .ok (.invokevirtual 115, 3) := by decide +kernel
theorem dX11_readLine_4 : decode cX11_readLine 4 = .ok (.iload_n 2, 1) := by decide +kernel
theorem dX11_readLine_5 : decode cX11_readLine 5 = .ok (.iload_n 1, 1) := by decide +kernel
theorem dX11_readLine_6 : decode cX11_readLine 6 = .ok (.ifCond .eq 8, 3) := by decide +kernel
theorem dX11_readLine_9 : decode cX11_readLine 9 = .ok (.bipush 14, 2) := by decide +kernel
theorem dX11_readLine_11 : decode cX11_readLine 11 = .ok (.goto 5, 3) := by decide +kernel
theorem dX11_readLine_14 : decode cX11_readLine 14 = .ok (.bipush 12, 2) := by decide +kernel
theorem dX11_readLine_16 : decode cX11_readLine 16 = .ok (.if_icmp .ge 29, 3) := by decide +kernel
theorem dX11_readLine_19 : decode cX11_readLine 19 = .ok (.iload_n 1, 1) := by decide +kernel
theorem dX11_readLine_20 : decode cX11_readLine 20 = .ok (.ifCond .eq 13, 3) := by decide +kernel
theorem dX11_readLine_23 : decode cX11_readLine 23 = .ok (.aload_n 0, 1) := by decide +kernel
theorem dX11_readLine_24 : decode cX11_readLine 24 = .ok (.invokevirtual 223, 3) := by decide +kernel
theorem dX11_readLine_27 : decode cX11_readLine 27 = .ok (.ifCond .eq 18, 3) := by decide +kernel
theorem dX11_readLine_30 : decode cX11_readLine 30 = .ok (.goto 11, 3) := by decide +kernel
theorem dX11_readLine_33 : decode cX11_readLine 33 = .ok (.aload_n 0, 1) := by decide +kernel
theorem dX11_readLine_34 : decode cX11_readLine 34 = .ok (.iload_n 2, 1) := by decide +kernel
theorem dX11_readLine_35 : decode cX11_readLine 35 = .ok (.invokevirtual 226, 3) := by decide +kernel
theorem dX11_readLine_38 : decode cX11_readLine 38 = .ok (.ifCond .eq 7, 3) := by decide +kernel
theorem dX11_readLine_41 : decode cX11_readLine 41 = .ok (.iconst 1, 1) := by decide +kernel
theorem dX11_readLine_42 : decode cX11_readLine 42 = .ok (.goto 4, 3) := by decide +kernel
theorem dX11_readLine_45 : decode cX11_readLine 45 = .ok (.iconst 0, 1) := by decide +kernel
theorem dX11_readLine_46 : decode cX11_readLine 46 = .ok (.ireturn, 1) := by decide +kernel
theorem dX11_readAll_0 : decode cX11_readAll 0 = .ok (.aload_n 0, 1) := by decide +kernel
theorem dX11_readAll_1 : decode cX11_readAll 1 = .ok (.invokevirtual 229, 3) := by decide +kernel
theorem dX11_readAll_4 : decode cX11_readAll 4 = .ok (.aload_n 0, 1) := by decide +kernel
theorem dX11_readAll_5 : decode cX11_readAll 5 = .ok (.iconst 0, 1) := by decide +kernel
theorem dX11_readAll_6 : decode cX11_readAll 6 = .ok (.putfield 176, 3) := by decide +kernel
theorem dX11_readAll_9 : decode cX11_readAll 9 = .ok (.aload_n 0, 1) := by decide +kernel
theorem dX11_readAll_10 : decode cX11_readAll 10 = .ok (.invokevirtual 103, 3) := by decide +kernel
theorem dX11_readAll_13 : decode cX11_readAll 13 = .ok (.aload_n 0, 1) := by decide +kernel
theorem dX11_readAll_14 : decode cX11_readAll 14 = .ok (.getfield 91, 3) := by decide +kernel
theorem dX11_readAll_17 : decode cX11_readAll 17 = .ok (.aload_n 0, 1) := by decide +kernel
theorem dX11_readAll_18 : decode cX11_readAll 18 = .ok (.getfield 94, 3) := by decide +kernel
theorem dX11_readAll_21 : decode cX11_readAll 21 = .ok (.if_icmp .ne 5, 3) := by decide +kernel
theorem dX11_readAll_24 : decode cX11_readAll 24 = .ok (.iconst 0, 1) := by decide +kernel
theorem dX11_readAll_25 : decode cX11_readAll 25 = .ok (.ireturn, 1) := by decide +kernel
theorem dX11_readAll_26 : decode cX11_readAll 26 = .ok (.iconst 0, 1) := by decide +kernel
theorem dX11_readAll_27 : decode cX11_readAll 27 = .ok (.istore_n 2, 1) := by decide +kernel
theorem dX11_readAll_28 : decode cX11_readAll 28 = .ok (.aload_n 0, 1) := by decide +kernel
theorem dX11_readAll_29 : decode cX11_readAll 29 = .ok (.iload_n 1, 1) := by decide +kernel
theorem dX11_readAll_30 : decode cX11_readAll 30 = .ok (.iload_n 2, 1) := by decide +kernel
theorem dX11_readAll_31 : decode cX11_readAll 31 = .ok (.invokevirtual 232, 3) := by decide +kernel
theorem dX11_readAll_34 : decode cX11_readAll 34 = .ok (.ifCond .ne 5, 3) := by decide +kernel
theorem dX11_readAll_37 : decode cX11_readAll 37 = .ok (.iconst (-1), 1) := by decide +kernel
theorem dX11_readAll_38 : decode cX11_readAll 38 = .ok (.ireturn, 1) := by decide +kernel
theorem dX11_readAll_39 : decode cX11_readAll 39 = .ok (.aload_n 0, 1) := by decide +kernel
theorem dX11_readAll_40 : decode cX11_readAll 40 = .ok (.invokevirtual 103, 3) := by decide +kernel
theorem dX11_readAll_43 : decode cX11_readAll 43 = .ok (.aload_n 0, 1) := by decide +kernel
theorem dX11_readAll_44 : decode cX11_readAll 44 = .ok (.getfield 91, 3) := by decide +kernel
theorem dX11_readAll_47 : decode cX11_readAll 47 = .ok (.aload_n 0, 1) := by decide +kernel
theorem dX11_readAll_48 : decode cX11_readAll 48 = .ok (.getfield 94, 3) := by decide +kernel
theorem dX11_readAll_51 : decode cX11_readAll 51 = .ok (.if_icmp .ne 7, 3) := by decide +kernel
theorem dX11_readAll_54 : decode cX11_readAll 54 = .ok (.iload_n 2, 1) := by decide +kernel
theorem dX11_readAll_55 : decode cX11_readAll 55 = .ok (.iconst 1, 1) := by decide +kernel
theorem dX11_readAll_56 : decode cX11_readAll 56 = .ok (.iadd, 1) := by decide +kernel
theorem dX11_readAll_57 : decode cX11_readAll 57 = .ok (.ireturn, 1) := by decide +kernel
theorem dX11_readAll_58 : decode cX11_readAll 58 = .ok (.aload_n 0, 1) := by decide +kernel
theorem dX11_readAll_59 : decode cX11_readAll 59 = .ok (.bipush 59, 2) := by decide +kernel
theorem dX11_readAll_61 : decode cX11_readAll 61 = .ok (.bipush 59, 2) := by decide +kernel
theorem dX11_readAll_63 : decode cX11_readAll 63 = .ok (.invokevirtual 97, 3) := by decide +kernel
theorem dX11_readAll_66 : decode cX11_readAll 66 = .ok (.ifCond .ne 5, 3) := by decide +kernel
theorem dX11_readAll_69 : decode cX11_readAll 69 = .ok (.iconst (-1), 1) := by decide +kernel
theorem dX11_readAll_70 : decode cX11_readAll 70 = .ok (.ireturn, 1) := by decide +kernel
theorem dX11_readAll_71 : decode cX11_readAll 71 = .ok (.aload_n 0, 1) := by decide +kernel
theorem dX11_readAll_72 : decode cX11_readAll 72 = .ok (.dup, 1) := by decide +kernel
theorem dX11_readAll_73 : decode cX11_readAll 73 = .ok (.getfield 91, 3) := by decide +kernel
theorem dX11_readAll_76 : decode cX11_readAll 76 = .ok (.iconst 1, 1) := by decide +kernel
theorem dX11_readAll_77 : decode cX11_readAll 77 = .ok (.iadd, 1) := by decide +kernel
theorem dX11_readAll_78 : decode cX11_readAll 78 = .ok (.putfield 91, 3) := by decide +kernel
theorem dX11_readAll_81 : decode cX11_readAll 81 = .ok (.iinc 2 1, 3) := by decide +kernel
theorem dX11_readAll_84 : decode cX11_readAll 84 = .ok (.goto (-56), 3) := by decide +kernel
theorem dX11_table_0 : decode cX11_table 0 = .ok (.iconst 0, 1) := by decide +kernel
theorem dX11_table_1 : decode cX11_table 1 = .ok (.istore_n 1, 1) := by decide +kernel
theorem dX11_table_2 : decode cX11_table 2 = .ok (.iload_n 1, 1) := by decide +kernel
theorem dX11_table_3 : decode cX11_table 3 = .ok (.sipush 1258, 3) := by decide +kernel
theorem dX11_table_6 : decode cX11_table 6 = .ok (.if_icmp .ge 21, 3) := by decide +kernel
theorem dX11_table_9 : decode cX11_table 9 = .ok (.aload_n 0, 1) := by decide +kernel
theorem dX11_table_10 : decode cX11_table 10 = .ok (.getfield 20, 3) := by decide +kernel
theorem dX11_table_13 : decode cX11_table 13 = .ok (.iload_n 1, 1) := by decide +kernel
theorem dX11_table_14 : decode cX11_table 14 = .ok (.aload_n 0, 1) := by decide +kernel
theorem dX11_table_15 : decode cX11_table 15 = .ok (.getfield 13, 3) := by decide +kernel
theorem dX11_table_18 : decode cX11_table 18 = .ok (.iload_n 1, 1) := by decide +kernel
theorem dX11_table_19 : decode cX11_table 19 = .ok (.iaload, 1) := by decide +kernel
theorem dX11_table_20 : decode cX11_table 20 = .ok (.iastore, 1) := by decide +kernel
theorem dX11_table_21 : decode cX11_table 21 = .ok (.iinc 1 1, 3) := by decide +kernel
theorem dX11_table_24 : decode cX11_table 24 = .ok (.goto (-22), 3) := by decide +kernel
theorem dX11_table_27 : decode cX11_table 27 = .ok (.aload_n 0, 1) := by decide +kernel
theorem dX11_table_28 : decode cX11_table 28 = .ok (.iconst 1, 1) := by decide +kernel
theorem dX11_table_29 : decode cX11_table 29 = .ok (.invokevirtual 236, 3) := by decide +kernel
theorem dX11_table_32 : decode cX11_table 32 = .ok (.istore_n 1, 1) := by decide +kernel
theorem dX11_table_33 : decode cX11_table 33 = .ok (.aload_n 0, 1) := by decide +kernel
theorem dX11_table_34 : decode cX11_table 34 = .ok (.iload_n 1, 1) := by decide +kernel
theorem dX11_table_35 : decode cX11_table 35 = .ok (.ifCond .ge 10, 3) := by decide +kernel
theorem dX11_table_38 : decode cX11_table 38 = .ok (.aload_n 0, 1) := by decide +kernel
theorem dX11_table_39 : decode cX11_table 39 = .ok (.getfield 100, 3) := by decide +kernel
theorem dX11_table_42 : decode cX11_table 42 = .ok (.goto 4, 3) := by decide +kernel
theorem dX11_table_45 : decode cX11_table 45 = .ok (.iconst (-1), 1) := by decide +kernel
theorem dX11_table_46 : decode cX11_table 46 = .ok (.putfield 33, 3) := by decide +kernel
theorem dX11_table_49 : decode cX11_table 49 = .ok (.aload_n 0, 1) := by decide +kernel
theorem dX11_table_50 : decode cX11_table 50 = .ok (.iload_n 1, 1) := by decide +kernel
theorem dX11_table_51 : decode cX11_table 51 = .ok (.ifCond .ge 7, 3) := by decide +kernel
theorem dX11_table_54 : decode cX11_table 54 = .ok (.iconst 1, 1) := by decide +kernel
theorem dX11_table_55 : decode cX11_table 55 = .ok (.goto 4, 3) := by decide +kernel
theorem dX11_table_58 : decode cX11_table 58 = .ok (.iconst 0, 1) := by decide +kernel
theorem dX11_table_59 : decode cX11_table 59 = .ok (.iconst 1, 1) := by decide +kernel
theorem dX11_table_60 : decode cX11_table 60 = .ok (.invokevirtual 240, 3) := by decide +kernel
theorem dX11_table_63 : decode cX11_table 63 = .ok (.ifCond .ne 27, 3) := by decide +kernel
theorem dX11_table_66 : decode cX11_table 66 = .ok (.aload_n 0, 1) := by decide +kernel
theorem dX11_table_67 : decode cX11_table 67 = .ok (.aload_n 0, 1) := by decide +kernel
theorem dX11_table_68 : decode cX11_table 68 = .ok (.getfield 13, 3) := by decide +kernel
theorem dX11_table_71 : decode cX11_table 71 = .ok (.iconst 2, 1) := by decide +kernel
theorem dX11_table_72 : decode cX11_table 72 = .ok (.iaload, 1) := by decide +kernel
theorem dX11_table_73 : decode cX11_table 73 = .ok (.bipush 12, 2) := by decide +kernel
theorem dX11_table_75 : decode cX11_table 75 = .ok (.if_icmp .ne 7, 3) := by decide +kernel
theorem dX11_table_78 : decode cX11_table 78 = .ok (.iconst 1, 1) := by decide +kernel
theorem dX11_table_79 : decode cX11_table 79 = .ok (.goto 4, 3) := by decide +kernel
theorem dX11_table_82 : decode cX11_table 82 = .ok (.iconst 0, 1) := by decide +kernel
theorem dX11_table_83 : decode cX11_table 83 = .ok (.iconst 2, 1) := by decide +kernel
theorem dX11_table_84 : decode cX11_table 84 = .ok (.invokevirtual 240, 3) := by decide +kernel
theorem dX11_table_87 : decode cX11_table 87 = .ok (.ifCond .eq 32, 3) := by decide +kernel
theorem dX11_table_90 : decode cX11_table 90 = .ok (.iconst 0, 1) := by decide +kernel
theorem dX11_table_91 : decode cX11_table 91 = .ok (.istore_n 2, 1) := by decide +kernel
theorem dX11_table_92 : decode cX11_table 92 = .ok (.iload_n 2, 1) := by decide +kernel
theorem dX11_table_93 : decode cX11_table 93 = .ok (.sipush 1258, 3) := by decide +kernel
theorem dX11_table_96 : decode cX11_table 96 = .ok (.if_icmp .ge 21, 3) := by decide +kernel
theorem dX11_table_99 : decode cX11_table 99 = .ok (.aload_n 0, 1) := by decide +kernel
theorem dX11_table_100 : decode cX11_table 100 = .ok (.getfield 13, 3) := by decide +kernel
theorem dX11_table_103 : decode cX11_table 103 = .ok (.iload_n 2, 1) := by decide +kernel
theorem dX11_table_104 : decode cX11_table 104 = .ok (.aload_n 0, 1) := by decide +kernel
theorem dX11_table_105 : decode cX11_table 105 = .ok (.getfield 20, 3) := by decide +kernel
theorem dX11_table_108 : decode cX11_table 108 = .ok (.iload_n 2, 1) := by decide +kernel
theorem dX11_table_109 : decode cX11_table 109 = .ok (.iaload, 1) := by decide +kernel
theorem dX11_table_110 : decode cX11_table 110 = .ok (.iastore, 1) := by decide +kernel
theorem dX11_table_111 : decode cX11_table 111 = .ok (.iinc 2 1, 3) := by decide +kernel
theorem dX11_table_114 : decode cX11_table 114 = .ok (.goto (-22), 3) := by decide +kernel
theorem dX11_table_117 : decode cX11_table 117 = .ok (.iconst 0, 1) := by decide +kernel
theorem dX11_table_118 : decode cX11_table 118 = .ok (.ireturn, 1) := by decide +kernel
theorem dX11_table_119 : decode cX11_table 119 = .ok (.aload_n 0, 1) := by decide +kernel
theorem dX11_table_120 : decode cX11_table 120 = .ok (.getfield 13, 3) := by decide +kernel
theorem dX11_table_123 : decode cX11_table 123 = .ok (.iconst 2, 1) := by decide +kernel
theorem dX11_table_124 : decode cX11_table 124 = .ok (.dup2, 1) := by decide +kernel
theorem dX11_table_125 : decode cX11_table 125 = .ok (.iaload, 1) := by decide +kernel
theorem dX11_table_126 : decode cX11_table 126 = .ok (.iconst 1, 1) := by decide +kernel
theorem dX11_table_127 : decode cX11_table 127 = .ok (.iadd, 1) := by decide +kernel
theorem dX11_table_128 : decode cX11_table 128 = .ok (.iastore, 1) := by decide +kernel
theorem dX11_table_129 : decode cX11_table 129 = .ok (.aload_n 0, 1) := by decide +kernel
theorem dX11_table_130 : decode cX11_table 130 = .ok (.iconst 0, 1) := by decide +kernel
theorem dX11_table_131 : decode cX11_table 131 = .ok (.putfield 52, 3) := by decide +kernel
theorem dX11_table_134 : decode cX11_table 134 = .ok (.aload_n 0, 1) := by decide +kernel
theorem dX11_table_135 : decode cX11_table 135 = .ok (.getfield 13, 3) := by decide +kernel
theorem dX11_table_138 : decode cX11_table 138 = .ok (.iconst 2, 1) := by decide +kernel
theorem dX11_table_139 : decode cX11_table 139 = .ok (.iaload, 1) := by decide +kernel
theorem dX11_table_140 : decode cX11_table 140 = .ok (.ireturn, 1) := by decide +kernel
theorem dX11_law_0 : decode cX11_law 0 = .ok (.aload_n 0, 1) := by decide +kernel
theorem dX11_law_1 : decode cX11_law 1 = .ok (.iconst 0, 1) := by decide +kernel
theorem dX11_law_2 : decode cX11_law 2 = .ok (.invokevirtual 236, 3) := by decide +kernel
theorem dX11_law_5 : decode cX11_law 5 = .ok (.istore_n 1, 1) := by decide +kernel
theorem dX11_law_6 : decode cX11_law 6 = .ok (.aload_n 0, 1) := by decide +kernel
theorem dX11_law_7 : decode cX11_law 7 = .ok (.iload_n 1, 1) := by decide +kernel
theorem dX11_law_8 : decode cX11_law 8 = .ok (.ifCond .ge 10, 3) := by decide +kernel
theorem dX11_law_11 : decode cX11_law 11 = .ok (.aload_n 0, 1) := by decide +kernel
theorem dX11_law_12 : decode cX11_law 12 = .ok (.getfield 100, 3) := by decide +kernel
theorem dX11_law_15 : decode cX11_law 15 = .ok (.goto 4, 3) := by decide +kernel
theorem dX11_law_18 : decode cX11_law 18 = .ok (.iconst (-1), 1) := by decide +kernel
theorem dX11_law_19 : decode cX11_law 19 = .ok (.putfield 33, 3) := by decide +kernel
theorem dX11_law_22 : decode cX11_law 22 = .ok (.aload_n 0, 1) := by decide +kernel
theorem dX11_law_23 : decode cX11_law 23 = .ok (.iload_n 1, 1) := by decide +kernel
theorem dX11_law_24 : decode cX11_law 24 = .ok (.ifCond .ge 7, 3) := by decide +kernel
theorem dX11_law_27 : decode cX11_law 27 = .ok (.iconst 1, 1) := by decide +kernel
theorem dX11_law_28 : decode cX11_law 28 = .ok (.goto 4, 3) := by decide +kernel
theorem dX11_law_31 : decode cX11_law 31 = .ok (.iconst 0, 1) := by decide +kernel
theorem dX11_law_32 : decode cX11_law 32 = .ok (.iconst 1, 1) := by decide +kernel
theorem dX11_law_33 : decode cX11_law 33 = .ok (.invokevirtual 240, 3) := by decide +kernel
theorem dX11_law_36 : decode cX11_law 36 = .ok (.ifCond .eq 5, 3) := by decide +kernel
theorem dX11_law_39 : decode cX11_law 39 = .ok (.iconst 0, 1) := by decide +kernel
theorem dX11_law_40 : decode cX11_law 40 = .ok (.ireturn, 1) := by decide +kernel
theorem dX11_law_41 : decode cX11_law 41 = .ok (.aload_n 0, 1) := by decide +kernel
theorem dX11_law_42 : decode cX11_law 42 = .ok (.getfield 13, 3) := by decide +kernel
theorem dX11_law_45 : decode cX11_law 45 = .ok (.sipush 1258, 3) := by decide +kernel
theorem dX11_law_48 : decode cX11_law 48 = .ok (.iload_n 1, 1) := by decide +kernel
theorem dX11_law_49 : decode cX11_law 49 = .ok (.iastore, 1) := by decide +kernel
theorem dX11_law_50 : decode cX11_law 50 = .ok (.iconst 0, 1) := by decide +kernel
theorem dX11_law_51 : decode cX11_law 51 = .ok (.istore_n 2, 1) := by decide +kernel
theorem dX11_law_52 : decode cX11_law 52 = .ok (.iload_n 2, 1) := by decide +kernel
theorem dX11_law_53 : decode cX11_law 53 = .ok (.sipush 849, 3) := by decide +kernel
theorem dX11_law_56 : decode cX11_law 56 = .ok (.if_icmp .ge 29, 3) := by decide +kernel
theorem dX11_law_59 : decode cX11_law 59 = .ok (.aload_n 0, 1) := by decide +kernel
theorem dX11_law_60 : decode cX11_law 60 = .ok (.getfield 13, 3) := by decide +kernel
theorem dX11_law_63 : decode cX11_law 63 = .ok (.sipush 409, 3) := by decide +kernel
theorem dX11_law_66 : decode cX11_law 66 = .ok (.iload_n 2, 1) := by decide +kernel
theorem dX11_law_67 : decode cX11_law 67 = .ok (.iadd, 1) := by decide +kernel
theorem dX11_law_68 : decode cX11_law 68 = .ok (.aload_n 0, 1) := by decide +kernel
theorem dX11_law_69 : decode cX11_law 69 = .ok (.getfield 13, 3) := by decide +kernel
theorem dX11_law_72 : decode cX11_law 72 = .ok (.sipush 1258, 3) := by decide +kernel
theorem dX11_law_75 : decode cX11_law 75 = .ok (.iload_n 2, 1) := by decide +kernel
theorem dX11_law_76 : decode cX11_law 76 = .ok (.iadd, 1) := by decide +kernel
theorem dX11_law_77 : decode cX11_law 77 = .ok (.iaload, 1) := by decide +kernel
theorem dX11_law_78 : decode cX11_law 78 = .ok (.iastore, 1) := by decide +kernel
theorem dX11_law_79 : decode cX11_law 79 = .ok (.iinc 2 1, 3) := by decide +kernel
theorem dX11_law_82 : decode cX11_law 82 = .ok (.goto (-30), 3) := by decide +kernel
theorem dX11_law_85 : decode cX11_law 85 = .ok (.aload_n 0, 1) := by decide +kernel
theorem dX11_law_86 : decode cX11_law 86 = .ok (.getfield 13, 3) := by decide +kernel
theorem dX11_law_89 : decode cX11_law 89 = .ok (.iconst 3, 1) := by decide +kernel
theorem dX11_law_90 : decode cX11_law 90 = .ok (.iconst 1, 1) := by decide +kernel
theorem dX11_law_91 : decode cX11_law 91 = .ok (.iastore, 1) := by decide +kernel
theorem dX11_law_92 : decode cX11_law 92 = .ok (.aload_n 0, 1) := by decide +kernel
theorem dX11_law_93 : decode cX11_law 93 = .ok (.iconst 0, 1) := by decide +kernel
theorem dX11_law_94 : decode cX11_law 94 = .ok (.putfield 52, 3) := by decide +kernel
theorem dX11_law_97 : decode cX11_law 97 = .ok (.iload_n 1, 1) := by decide +kernel
theorem dX11_law_98 : decode cX11_law 98 = .ok (.ireturn, 1) := by decide +kernel
theorem dX11_factOf_0 : decode cX11_factOf 0 = .ok (.iload_n 1, 1) := by decide +kernel
theorem dX11_factOf_1 : decode cX11_factOf 1 = .ok (.tableswitch 119 0 7 #[47, 50, 52, 60, 67, 82, 89, 97], 47) := by decide +kernel
theorem dX11_factOf_48 : decode cX11_factOf 48 = .ok (.iload 4, 2) := by decide +kernel
theorem dX11_factOf_50 : decode cX11_factOf 50 = .ok (.ireturn, 1) := by decide +kernel
theorem dX11_factOf_51 : decode cX11_factOf 51 = .ok (.iload_n 3, 1) := by decide +kernel
theorem dX11_factOf_52 : decode cX11_factOf 52 = .ok (.ireturn, 1) := by decide +kernel
theorem dX11_factOf_53 : decode cX11_factOf 53 = .ok (.aload_n 0, 1) := by decide +kernel
theorem dX11_factOf_54 : decode cX11_factOf 54 = .ok (.iload 4, 2) := by decide +kernel
theorem dX11_factOf_56 : decode cX11_factOf 56 = .ok (.iconst 1, 1) := by decide +kernel
theorem dX11_factOf_57 : decode cX11_factOf 57 = .ok (.invokevirtual 59, 3) := by decide +kernel
theorem dX11_factOf_60 : decode cX11_factOf 60 = .ok (.ireturn, 1) := by decide +kernel
theorem dX11_factOf_61 : decode cX11_factOf 61 = .ok (.aload_n 0, 1) := by decide +kernel
theorem dX11_factOf_62 : decode cX11_factOf 62 = .ok (.iload_n 3, 1) := by decide +kernel
theorem dX11_factOf_63 : decode cX11_factOf 63 = .ok (.iconst 2, 1) := by decide +kernel
theorem dX11_factOf_64 : decode cX11_factOf 64 = .ok (.invokevirtual 65, 3) := by decide +kernel
theorem dX11_factOf_67 : decode cX11_factOf 67 = .ok (.ireturn, 1) := by decide +kernel
theorem dX11_factOf_68 : decode cX11_factOf 68 = .ok (.aload_n 0, 1) := by decide +kernel
theorem dX11_factOf_69 : decode cX11_factOf 69 = .ok (.iload 4, 2) := by decide +kernel
theorem dX11_factOf_71 : decode cX11_factOf 71 = .ok (.iconst 3, 1) := by decide +kernel
theorem dX11_factOf_72 : decode cX11_factOf 72 = .ok (.aload_n 0, 1) := by decide +kernel
theorem dX11_factOf_73 : decode cX11_factOf 73 = .ok (.iload_n 3, 1) := by decide +kernel
theorem dX11_factOf_74 : decode cX11_factOf 74 = .ok (.iconst 1, 1) := by decide +kernel
theorem dX11_factOf_75 : decode cX11_factOf 75 = .ok (.invokevirtual 65, 3) := by decide +kernel
theorem dX11_factOf_78 : decode cX11_factOf 78 = .ok (.iadd, 1) := by decide +kernel
theorem dX11_factOf_79 : decode cX11_factOf 79 = .ok (.invokevirtual 59, 3) := by decide +kernel
theorem dX11_factOf_82 : decode cX11_factOf 82 = .ok (.ireturn, 1) := by decide +kernel
theorem dX11_factOf_83 : decode cX11_factOf 83 = .ok (.aload_n 0, 1) := by decide +kernel
theorem dX11_factOf_84 : decode cX11_factOf 84 = .ok (.getfield 13, 3) := by decide +kernel
theorem dX11_factOf_87 : decode cX11_factOf 87 = .ok (.iconst 4, 1) := by decide +kernel
theorem dX11_factOf_88 : decode cX11_factOf 88 = .ok (.iaload, 1) := by decide +kernel
theorem dX11_factOf_89 : decode cX11_factOf 89 = .ok (.ireturn, 1) := by decide +kernel
theorem dX11_factOf_90 : decode cX11_factOf 90 = .ok (.aload_n 0, 1) := by decide +kernel
theorem dX11_factOf_91 : decode cX11_factOf 91 = .ok (.iload 4, 2) := by decide +kernel
theorem dX11_factOf_93 : decode cX11_factOf 93 = .ok (.iconst 2, 1) := by decide +kernel
theorem dX11_factOf_94 : decode cX11_factOf 94 = .ok (.invokevirtual 59, 3) := by decide +kernel
theorem dX11_factOf_97 : decode cX11_factOf 97 = .ok (.ireturn, 1) := by decide +kernel
theorem dX11_factOf_98 : decode cX11_factOf 98 = .ok (.aload_n 0, 1) := by decide +kernel
theorem dX11_factOf_99 : decode cX11_factOf 99 = .ok (.iload_n 3, 1) := by decide +kernel
theorem dX11_factOf_100 : decode cX11_factOf 100 = .ok (.iconst 2, 1) := by decide +kernel
theorem dX11_factOf_101 : decode cX11_factOf 101 = .ok (.invokevirtual 65, 3) := by decide +kernel
theorem dX11_factOf_104 : decode cX11_factOf 104 = .ok (.aload_n 0, 1) := by decide +kernel
theorem dX11_factOf_105 : decode cX11_factOf 105 = .ok (.iload 4, 2) := by decide +kernel
theorem dX11_factOf_107 : decode cX11_factOf 107 = .ok (.iconst 1, 1) := by decide +kernel
theorem dX11_factOf_108 : decode cX11_factOf 108 = .ok (.invokevirtual 59, 3) := by decide +kernel
theorem dX11_factOf_111 : decode cX11_factOf 111 = .ok (.if_icmp .gt 7, 3) := by decide +kernel
theorem dX11_factOf_114 : decode cX11_factOf 114 = .ok (.iconst 1, 1) := by decide +kernel
theorem dX11_factOf_115 : decode cX11_factOf 115 = .ok (.goto 4, 3) := by decide +kernel
theorem dX11_factOf_118 : decode cX11_factOf 118 = .ok (.iconst 0, 1) := by decide +kernel
theorem dX11_factOf_119 : decode cX11_factOf 119 = .ok (.ireturn, 1) := by decide +kernel
theorem dX11_factOf_120 : decode cX11_factOf 120 = .ok (.iload_n 2, 1) := by decide +kernel
theorem dX11_factOf_121 : decode cX11_factOf 121 = .ok (.ireturn, 1) := by decide +kernel
theorem dX11_holdsLine_0 : decode cX11_holdsLine 0 = .ok (.iconst 0, 1) := by decide +kernel
theorem dX11_holdsLine_1 : decode cX11_holdsLine 1 = .ok (.istore 4, 2) := by decide +kernel
theorem dX11_holdsLine_3 : decode cX11_holdsLine 3 = .ok (.sipush 410, 3) := by decide +kernel
theorem dX11_holdsLine_6 : decode cX11_holdsLine 6 = .ok (.iconst 4, 1) := by decide +kernel
theorem dX11_holdsLine_7 : decode cX11_holdsLine 7 = .ok (.iload_n 1, 1) := by decide +kernel
theorem dX11_holdsLine_8 : decode cX11_holdsLine 8 = .ok (.imul, 1) := by decide +kernel
theorem dX11_holdsLine_9 : decode cX11_holdsLine 9 = .ok (.iadd, 1) := by decide +kernel
theorem dX11_holdsLine_10 : decode cX11_holdsLine 10 = .ok (.istore 5, 2) := by decide +kernel
theorem dX11_holdsLine_12 : decode cX11_holdsLine 12 = .ok (.aload_n 0, 1) := by decide +kernel
theorem dX11_holdsLine_13 : decode cX11_holdsLine 13 = .ok (.getfield 13, 3) := by decide +kernel
theorem dX11_holdsLine_16 : decode cX11_holdsLine 16 = .ok (.iload 5, 2) := by decide +kernel
theorem dX11_holdsLine_18 : decode cX11_holdsLine 18 = .ok (.iconst 2, 1) := by decide +kernel
theorem dX11_holdsLine_19 : decode cX11_holdsLine 19 = .ok (.iadd, 1) := by decide +kernel
theorem dX11_holdsLine_20 : decode cX11_holdsLine 20 = .ok (.iaload, 1) := by decide +kernel
theorem dX11_holdsLine_21 : decode cX11_holdsLine 21 = .ok (.istore 6, 2) := by decide +kernel
theorem dX11_holdsLine_23 : decode cX11_holdsLine 23 = .ok (.iload 6, 2) := by decide +kernel
theorem dX11_holdsLine_25 : decode cX11_holdsLine 25 = .ok (.aload_n 0, 1) := by decide +kernel
theorem dX11_holdsLine_26 : decode cX11_holdsLine 26 = .ok (.getfield 13, 3) := by decide +kernel
theorem dX11_holdsLine_29 : decode cX11_holdsLine 29 = .ok (.iload 5, 2) := by decide +kernel
theorem dX11_holdsLine_31 : decode cX11_holdsLine 31 = .ok (.iconst 3, 1) := by decide +kernel
theorem dX11_holdsLine_32 : decode cX11_holdsLine 32 = .ok (.iadd, 1) := by decide +kernel
theorem dX11_holdsLine_33 : decode cX11_holdsLine 33 = .ok (.iaload, 1) := by decide +kernel
theorem dX11_holdsLine_34 : decode cX11_holdsLine 34 = .ok (.if_icmp .ge 237, 3) := by decide +kernel
theorem dX11_holdsLine_37 : decode cX11_holdsLine 37 = .ok (.aload_n 0, 1) := by decide +kernel
theorem dX11_holdsLine_38 : decode cX11_holdsLine 38 = .ok (.getfield 13, 3) := by decide +kernel
theorem dX11_holdsLine_41 : decode cX11_holdsLine 41 = .ok (.sipush 458, 3) := by decide +kernel
theorem dX11_holdsLine_44 : decode cX11_holdsLine 44 = .ok (.iconst 2, 1) := by decide +kernel
theorem dX11_holdsLine_45 : decode cX11_holdsLine 45 = .ok (.iload 6, 2) := by decide +kernel
theorem dX11_holdsLine_47 : decode cX11_holdsLine 47 = .ok (.imul, 1) := by decide +kernel
theorem dX11_holdsLine_48 : decode cX11_holdsLine 48 = .ok (.iadd, 1) := by decide +kernel
theorem dX11_holdsLine_49 : decode cX11_holdsLine 49 = .ok (.iaload, 1) := by decide +kernel
theorem dX11_holdsLine_50 : decode cX11_holdsLine 50 = .ok (.istore 7, 2) := by decide +kernel
theorem dX11_holdsLine_52 : decode cX11_holdsLine 52 = .ok (.iload 7, 2) := by decide +kernel
theorem dX11_holdsLine_54 : decode cX11_holdsLine 54 = .ok (.bipush 8, 2) := by decide +kernel
theorem dX11_holdsLine_56 : decode cX11_holdsLine 56 = .ok (.if_icmp .gt 39, 3) := by decide +kernel
theorem dX11_holdsLine_59 : decode cX11_holdsLine 59 = .ok (.aload_n 0, 1) := by decide +kernel
theorem dX11_holdsLine_60 : decode cX11_holdsLine 60 = .ok (.getfield 39, 3) := by decide +kernel
theorem dX11_holdsLine_63 : decode cX11_holdsLine 63 = .ok (.iload 4, 2) := by decide +kernel
theorem dX11_holdsLine_65 : decode cX11_holdsLine 65 = .ok (.aload_n 0, 1) := by decide +kernel
theorem dX11_holdsLine_66 : decode cX11_holdsLine 66 = .ok (.iload 7, 2) := by decide +kernel
theorem dX11_holdsLine_68 : decode cX11_holdsLine 68 = .ok (.aload_n 0, 1) := by decide +kernel
theorem dX11_holdsLine_69 : decode cX11_holdsLine 69 = .ok (.getfield 13, 3) := by decide +kernel
theorem dX11_holdsLine_72 : decode cX11_holdsLine 72 = .ok (.sipush 458, 3) := by decide +kernel
theorem dX11_holdsLine_75 : decode cX11_holdsLine 75 = .ok (.iconst 2, 1) := by decide +kernel
theorem dX11_holdsLine_76 : decode cX11_holdsLine 76 = .ok (.iload 6, 2) := by decide +kernel
theorem dX11_holdsLine_78 : decode cX11_holdsLine 78 = .ok (.imul, 1) := by decide +kernel
theorem dX11_holdsLine_79 : decode cX11_holdsLine 79 = .ok (.iadd, 1) := by decide +kernel
theorem dX11_holdsLine_80 : decode cX11_holdsLine 80 = .ok (.iconst 1, 1) := by decide +kernel
theorem dX11_holdsLine_81 : decode cX11_holdsLine 81 = .ok (.iadd, 1) := by decide +kernel
theorem dX11_holdsLine_82 : decode cX11_holdsLine 82 = .ok (.iaload, 1) := by decide +kernel
theorem dX11_holdsLine_83 : decode cX11_holdsLine 83 = .ok (.iload_n 2, 1) := by decide +kernel
theorem dX11_holdsLine_84 : decode cX11_holdsLine 84 = .ok (.iload_n 3, 1) := by decide +kernel
theorem dX11_holdsLine_85 : decode cX11_holdsLine 85 = .ok (.invokevirtual 243, 3) := by decide +kernel
theorem dX11_holdsLine_88 : decode cX11_holdsLine 88 = .ok (.iastore, 1) := by decide +kernel
theorem dX11_holdsLine_89 : decode cX11_holdsLine 89 = .ok (.iinc 4 1, 3) := by decide +kernel
theorem dX11_holdsLine_92 : decode cX11_holdsLine 92 = .ok (.goto 173, 3) := by decide +kernel
theorem dX11_holdsLine_95 : decode cX11_holdsLine 95 = .ok (.iload 7, 2) := by decide +kernel
theorem dX11_holdsLine_97 : decode cX11_holdsLine 97 = .ok (.bipush 12, 2) := by decide +kernel
theorem dX11_holdsLine_99 : decode cX11_holdsLine 99 = .ok (.if_icmp .ne 26, 3) := by decide +kernel
theorem dX11_holdsLine_102 : decode cX11_holdsLine 102 = .ok (.aload_n 0, 1) := by decide +kernel
theorem dX11_holdsLine_103 : decode cX11_holdsLine 103 = .ok (.getfield 39, 3) := by decide +kernel
theorem dX11_holdsLine_106 : decode cX11_holdsLine 106 = .ok (.iload 4, 2) := by decide +kernel
theorem dX11_holdsLine_108 : decode cX11_holdsLine 108 = .ok (.iconst 1, 1) := by decide +kernel
theorem dX11_holdsLine_109 : decode cX11_holdsLine 109 = .ok (.isub, 1) := by decide +kernel
theorem dX11_holdsLine_110 : decode cX11_holdsLine 110 = .ok (.iconst 1, 1) := by decide +kernel
theorem dX11_holdsLine_111 : decode cX11_holdsLine 111 = .ok (.aload_n 0, 1) := by decide +kernel
theorem dX11_holdsLine_112 : decode cX11_holdsLine 112 = .ok (.getfield 39, 3) := by decide +kernel
theorem dX11_holdsLine_115 : decode cX11_holdsLine 115 = .ok (.iload 4, 2) := by decide +kernel
theorem dX11_holdsLine_117 : decode cX11_holdsLine 117 = .ok (.iconst 1, 1) := by decide +kernel
theorem dX11_holdsLine_118 : decode cX11_holdsLine 118 = .ok (.isub, 1) := by decide +kernel
theorem dX11_holdsLine_119 : decode cX11_holdsLine 119 = .ok (.iaload, 1) := by decide +kernel
theorem dX11_holdsLine_120 : decode cX11_holdsLine 120 = .ok (.isub, 1) := by decide +kernel
theorem dX11_holdsLine_121 : decode cX11_holdsLine 121 = .ok (.iastore, 1) := by decide +kernel
theorem dX11_holdsLine_122 : decode cX11_holdsLine 122 = .ok (.goto 143, 3) := by decide +kernel
theorem dX11_holdsLine_125 : decode cX11_holdsLine 125 = .ok (.iinc 4 (-1), 3) := by decide +kernel
theorem dX11_holdsLine_128 : decode cX11_holdsLine 128 = .ok (.aload_n 0, 1) := by decide +kernel
theorem dX11_holdsLine_129 : decode cX11_holdsLine 129 = .ok (.getfield 39, 3) := by decide +kernel
theorem dX11_holdsLine_132 : decode cX11_holdsLine 132 = .ok (.iload 4, 2) := by decide +kernel
theorem dX11_holdsLine_134 : decode cX11_holdsLine 134 = .ok (.iconst 1, 1) := by decide +kernel
theorem dX11_holdsLine_135 : decode cX11_holdsLine 135 = .ok (.isub, 1) := by decide +kernel
theorem dX11_holdsLine_136 : decode cX11_holdsLine 136 = .ok (.iaload, 1) := by decide +kernel
theorem dX11_holdsLine_137 : decode cX11_holdsLine 137 = .ok (.istore 8, 2) := by decide +kernel
theorem dX11_holdsLine_139 : decode cX11_holdsLine 139 = .ok (.aload_n 0, 1) := by decide +kernel
theorem dX11_holdsLine_140 : decode cX11_holdsLine 140 = .ok (.getfield 39, 3) := by decide +kernel
theorem dX11_holdsLine_143 : decode cX11_holdsLine 143 = .ok (.iload 4, 2) := by decide +kernel
theorem dX11_holdsLine_145 : decode cX11_holdsLine 145 = .ok (.iaload, 1) := by decide +kernel
theorem dX11_holdsLine_146 : decode cX11_holdsLine 146 = .ok (.istore 9, 2) := by decide +kernel
theorem dX11_holdsLine_148 : decode cX11_holdsLine 148 = .ok (.iload 7, 2) := by decide +kernel
theorem dX11_holdsLine_150 : decode cX11_holdsLine 150 = .ok (.bipush 10, 2) := by decide +kernel
theorem dX11_holdsLine_152 : decode cX11_holdsLine 152 = .ok (.if_icmp .ne 18, 3) := by decide +kernel
theorem dX11_holdsLine_155 : decode cX11_holdsLine 155 = .ok (.iload 8, 2) := by decide +kernel
theorem dX11_holdsLine_157 : decode cX11_holdsLine 157 = .ok (.iload 9, 2) := by decide +kernel
theorem dX11_holdsLine_159 : decode cX11_holdsLine 159 = .ok (.if_icmp .ge 7, 3) := by decide +kernel
theorem dX11_holdsLine_162 : decode cX11_holdsLine 162 = .ok (.iconst 1, 1) := by decide +kernel
theorem dX11_holdsLine_163 : decode cX11_holdsLine 163 = .ok (.goto 66, 3) := by decide +kernel
theorem dX11_holdsLine_166 : decode cX11_holdsLine 166 = .ok (.iconst 0, 1) := by decide +kernel
theorem dX11_holdsLine_167 : decode cX11_holdsLine 167 = .ok (.goto 62, 3) := by decide +kernel
theorem dX11_holdsLine_170 : decode cX11_holdsLine 170 = .ok (.iload 7, 2) := by decide +kernel
theorem dX11_holdsLine_172 : decode cX11_holdsLine 172 = .ok (.bipush 11, 2) := by decide +kernel
theorem dX11_holdsLine_174 : decode cX11_holdsLine 174 = .ok (.if_icmp .ne 18, 3) := by decide +kernel
theorem dX11_holdsLine_177 : decode cX11_holdsLine 177 = .ok (.iload 8, 2) := by decide +kernel
theorem dX11_holdsLine_179 : decode cX11_holdsLine 179 = .ok (.iload 9, 2) := by decide +kernel
theorem dX11_holdsLine_181 : decode cX11_holdsLine 181 = .ok (.if_icmp .le 7, 3) := by decide +kernel
theorem dX11_holdsLine_184 : decode cX11_holdsLine 184 = .ok (.iconst 1, 1) := by decide +kernel
theorem dX11_holdsLine_185 : decode cX11_holdsLine 185 = .ok (.goto 44, 3) := by decide +kernel
theorem dX11_holdsLine_188 : decode cX11_holdsLine 188 = .ok (.iconst 0, 1) := by decide +kernel
theorem dX11_holdsLine_189 : decode cX11_holdsLine 189 = .ok (.goto 40, 3) := by decide +kernel
theorem dX11_holdsLine_192 : decode cX11_holdsLine 192 = .ok (.iload 7, 2) := by decide +kernel
theorem dX11_holdsLine_194 : decode cX11_holdsLine 194 = .ok (.bipush 13, 2) := by decide +kernel
theorem dX11_holdsLine_196 : decode cX11_holdsLine 196 = .ok (.if_icmp .ne 20, 3) := by decide +kernel
theorem dX11_holdsLine_199 : decode cX11_holdsLine 199 = .ok (.iload 8, 2) := by decide +kernel
theorem dX11_holdsLine_201 : decode cX11_holdsLine 201 = .ok (.iload 9, 2) := by decide +kernel
theorem dX11_holdsLine_203 : decode cX11_holdsLine 203 = .ok (.iadd, 1) := by decide +kernel
theorem dX11_holdsLine_204 : decode cX11_holdsLine 204 = .ok (.iconst 2, 1) := by decide +kernel
theorem dX11_holdsLine_205 : decode cX11_holdsLine 205 = .ok (.if_icmp .ne 7, 3) := by decide +kernel
theorem dX11_holdsLine_208 : decode cX11_holdsLine 208 = .ok (.iconst 1, 1) := by decide +kernel
theorem dX11_holdsLine_209 : decode cX11_holdsLine 209 = .ok (.goto 20, 3) := by decide +kernel
theorem dX11_holdsLine_212 : decode cX11_holdsLine 212 = .ok (.iconst 0, 1) := by decide +kernel
theorem dX11_holdsLine_213 : decode cX11_holdsLine 213 = .ok (.goto 16, 3) := by decide +kernel
theorem dX11_holdsLine_216 : decode cX11_holdsLine 216 = .ok (.iload 8, 2) := by decide +kernel
theorem dX11_holdsLine_218 : decode cX11_holdsLine 218 = .ok (.iload 9, 2) := by decide +kernel
theorem dX11_holdsLine_220 : decode cX11_holdsLine 220 = .ok (.iadd, 1) := by decide +kernel
theorem dX11_holdsLine_221 : decode cX11_holdsLine 221 = .ok (.ifCond .le 7, 3) := by decide +kernel
theorem dX11_holdsLine_224 : decode cX11_holdsLine 224 = .ok (.iconst 1, 1) := by decide +kernel
theorem dX11_holdsLine_225 : decode cX11_holdsLine 225 = .ok (.goto 4, 3) := by decide +kernel
theorem dX11_holdsLine_228 : decode cX11_holdsLine 228 = .ok (.iconst 0, 1) := by decide +kernel
theorem dX11_holdsLine_229 : decode cX11_holdsLine 229 = .ok (.istore 10, 2) := by decide +kernel
theorem dX11_holdsLine_231 : decode cX11_holdsLine 231 = .ok (.aload_n 0, 1) := by decide +kernel
theorem dX11_holdsLine_232 : decode cX11_holdsLine 232 = .ok (.getfield 39, 3) := by decide +kernel
theorem dX11_holdsLine_235 : decode cX11_holdsLine 235 = .ok (.iload 4, 2) := by decide +kernel
theorem dX11_holdsLine_237 : decode cX11_holdsLine 237 = .ok (.iconst 1, 1) := by decide +kernel
theorem dX11_holdsLine_238 : decode cX11_holdsLine 238 = .ok (.isub, 1) := by decide +kernel
theorem dX11_holdsLine_239 : decode cX11_holdsLine 239 = .ok (.iload 7, 2) := by decide +kernel
theorem dX11_holdsLine_241 : decode cX11_holdsLine 241 = .ok (.bipush 9, 2) := by decide +kernel
theorem dX11_holdsLine_243 : decode cX11_holdsLine 243 = .ok (.if_icmp .ne 11, 3) := by decide +kernel
theorem dX11_holdsLine_246 : decode cX11_holdsLine 246 = .ok (.iload 8, 2) := by decide +kernel
theorem dX11_holdsLine_248 : decode cX11_holdsLine 248 = .ok (.iload 9, 2) := by decide +kernel
theorem dX11_holdsLine_250 : decode cX11_holdsLine 250 = .ok (.iadd, 1) := by decide +kernel
theorem dX11_holdsLine_251 : decode cX11_holdsLine 251 = .ok (.goto 13, 3) := by decide +kernel
theorem dX11_holdsLine_254 : decode cX11_holdsLine 254 = .ok (.iload 10, 2) := by decide +kernel
theorem dX11_holdsLine_256 : decode cX11_holdsLine 256 = .ok (.ifCond .eq 7, 3) := by decide +kernel
theorem dX11_holdsLine_259 : decode cX11_holdsLine 259 = .ok (.iconst 1, 1) := by decide +kernel
theorem dX11_holdsLine_260 : decode cX11_holdsLine 260 = .ok (.goto 4, 3) := by decide +kernel
theorem dX11_holdsLine_263 : decode cX11_holdsLine 263 = .ok (.iconst 0, 1) := by decide +kernel
theorem dX11_holdsLine_264 : decode cX11_holdsLine 264 = .ok (.iastore, 1) := by decide +kernel
theorem dX11_holdsLine_265 : decode cX11_holdsLine 265 = .ok (.iinc 6 1, 3) := by decide +kernel
theorem dX11_holdsLine_268 : decode cX11_holdsLine 268 = .ok (.goto (-245), 3) := by decide +kernel
theorem dX11_holdsLine_271 : decode cX11_holdsLine 271 = .ok (.iload 4, 2) := by decide +kernel
theorem dX11_holdsLine_273 : decode cX11_holdsLine 273 = .ok (.ifCond .eq 13, 3) := by decide +kernel
theorem dX11_holdsLine_276 : decode cX11_holdsLine 276 = .ok (.aload_n 0, 1) := by decide +kernel
theorem dX11_holdsLine_277 : decode cX11_holdsLine 277 = .ok (.getfield 39, 3) := by decide +kernel
theorem dX11_holdsLine_280 : decode cX11_holdsLine 280 = .ok (.iconst 0, 1) := by decide +kernel
theorem dX11_holdsLine_281 : decode cX11_holdsLine 281 = .ok (.iaload, 1) := by decide +kernel
theorem dX11_holdsLine_282 : decode cX11_holdsLine 282 = .ok (.iconst 1, 1) := by decide +kernel
theorem dX11_holdsLine_283 : decode cX11_holdsLine 283 = .ok (.if_icmp .ne 7, 3) := by decide +kernel
theorem dX11_holdsLine_286 : decode cX11_holdsLine 286 = .ok (.iconst 1, 1) := by decide +kernel
theorem dX11_holdsLine_287 : decode cX11_holdsLine 287 = .ok (.goto 4, 3) := by decide +kernel
theorem dX11_holdsLine_290 : decode cX11_holdsLine 290 = .ok (.iconst 0, 1) := by decide +kernel
theorem dX11_holdsLine_291 : decode cX11_holdsLine 291 = .ok (.ireturn, 1) := by decide +kernel
theorem dX11_sumOf_0 : decode cX11_sumOf 0 = .ok (.iconst 0, 1) := by decide +kernel
theorem dX11_sumOf_1 : decode cX11_sumOf 1 = .ok (.istore 4, 2) := by decide +kernel
theorem dX11_sumOf_3 : decode cX11_sumOf 3 = .ok (.iconst 0, 1) := by decide +kernel
theorem dX11_sumOf_4 : decode cX11_sumOf 4 = .ok (.istore 5, 2) := by decide +kernel
theorem dX11_sumOf_6 : decode cX11_sumOf 6 = .ok (.aload_n 0, 1) := by decide +kernel
theorem dX11_sumOf_7 : decode cX11_sumOf 7 = .ok (.getfield 13, 3) := by decide +kernel
theorem dX11_sumOf_10 : decode cX11_sumOf 10 = .ok (.iconst 3, 1) := by decide +kernel
theorem dX11_sumOf_11 : decode cX11_sumOf 11 = .ok (.iaload, 1) := by decide +kernel
theorem dX11_sumOf_12 : decode cX11_sumOf 12 = .ok (.iconst 1, 1) := by decide +kernel
theorem dX11_sumOf_13 : decode cX11_sumOf 13 = .ok (.if_icmp .ne 70, 3) := by decide +kernel
theorem dX11_sumOf_16 : decode cX11_sumOf 16 = .ok (.iload 5, 2) := by decide +kernel
theorem dX11_sumOf_18 : decode cX11_sumOf 18 = .ok (.aload_n 0, 1) := by decide +kernel
theorem dX11_sumOf_19 : decode cX11_sumOf 19 = .ok (.getfield 13, 3) := by decide +kernel
theorem dX11_sumOf_22 : decode cX11_sumOf 22 = .ok (.sipush 409, 3) := by decide +kernel
theorem dX11_sumOf_25 : decode cX11_sumOf 25 = .ok (.iaload, 1) := by decide +kernel
theorem dX11_sumOf_26 : decode cX11_sumOf 26 = .ok (.if_icmp .ge 57, 3) := by decide +kernel
theorem dX11_sumOf_29 : decode cX11_sumOf 29 = .ok (.aload_n 0, 1) := by decide +kernel
theorem dX11_sumOf_30 : decode cX11_sumOf 30 = .ok (.getfield 13, 3) := by decide +kernel
theorem dX11_sumOf_33 : decode cX11_sumOf 33 = .ok (.sipush 410, 3) := by decide +kernel
theorem dX11_sumOf_36 : decode cX11_sumOf 36 = .ok (.iconst 4, 1) := by decide +kernel
theorem dX11_sumOf_37 : decode cX11_sumOf 37 = .ok (.iload 5, 2) := by decide +kernel
theorem dX11_sumOf_39 : decode cX11_sumOf 39 = .ok (.imul, 1) := by decide +kernel
theorem dX11_sumOf_40 : decode cX11_sumOf 40 = .ok (.iadd, 1) := by decide +kernel
theorem dX11_sumOf_41 : decode cX11_sumOf 41 = .ok (.iaload, 1) := by decide +kernel
theorem dX11_sumOf_42 : decode cX11_sumOf 42 = .ok (.iload_n 1, 1) := by decide +kernel
theorem dX11_sumOf_43 : decode cX11_sumOf 43 = .ok (.if_icmp .ne 34, 3) := by decide +kernel
theorem dX11_sumOf_46 : decode cX11_sumOf 46 = .ok (.aload_n 0, 1) := by decide +kernel
theorem dX11_sumOf_47 : decode cX11_sumOf 47 = .ok (.iload 5, 2) := by decide +kernel
theorem dX11_sumOf_49 : decode cX11_sumOf 49 = .ok (.iload_n 2, 1) := by decide +kernel
theorem dX11_sumOf_50 : decode cX11_sumOf 50 = .ok (.iload_n 3, 1) := by decide +kernel
theorem dX11_sumOf_51 : decode cX11_sumOf 51 = .ok (.invokevirtual 247, 3) := by decide +kernel
theorem dX11_sumOf_54 : decode cX11_sumOf 54 = .ok (.ifCond .eq 23, 3) := by decide +kernel
theorem dX11_sumOf_57 : decode cX11_sumOf 57 = .ok (.iload 4, 2) := by decide +kernel
theorem dX11_sumOf_59 : decode cX11_sumOf 59 = .ok (.aload_n 0, 1) := by decide +kernel
theorem dX11_sumOf_60 : decode cX11_sumOf 60 = .ok (.getfield 13, 3) := by decide +kernel
theorem dX11_sumOf_63 : decode cX11_sumOf 63 = .ok (.sipush 410, 3) := by decide +kernel
theorem dX11_sumOf_66 : decode cX11_sumOf 66 = .ok (.iconst 4, 1) := by decide +kernel
theorem dX11_sumOf_67 : decode cX11_sumOf 67 = .ok (.iload 5, 2) := by decide +kernel
theorem dX11_sumOf_69 : decode cX11_sumOf 69 = .ok (.imul, 1) := by decide +kernel
theorem dX11_sumOf_70 : decode cX11_sumOf 70 = .ok (.iadd, 1) := by decide +kernel
theorem dX11_sumOf_71 : decode cX11_sumOf 71 = .ok (.iconst 1, 1) := by decide +kernel
theorem dX11_sumOf_72 : decode cX11_sumOf 72 = .ok (.iadd, 1) := by decide +kernel
theorem dX11_sumOf_73 : decode cX11_sumOf 73 = .ok (.iaload, 1) := by decide +kernel
theorem dX11_sumOf_74 : decode cX11_sumOf 74 = .ok (.iadd, 1) := by decide +kernel
theorem dX11_sumOf_75 : decode cX11_sumOf 75 = .ok (.istore 4, 2) := by decide +kernel
theorem dX11_sumOf_77 : decode cX11_sumOf 77 = .ok (.iinc 5 1, 3) := by decide +kernel
theorem dX11_sumOf_80 : decode cX11_sumOf 80 = .ok (.goto (-74), 3) := by decide +kernel
theorem dX11_sumOf_83 : decode cX11_sumOf 83 = .ok (.iload 4, 2) := by decide +kernel
theorem dX11_sumOf_85 : decode cX11_sumOf 85 = .ok (.ireturn, 1) := by decide +kernel
theorem dX11_takenBy_0 : decode cX11_takenBy 0 = .ok (.iconst 0, 1) := by decide +kernel
theorem dX11_takenBy_1 : decode cX11_takenBy 1 = .ok (.aload_n 0, 1) := by decide +kernel
theorem dX11_takenBy_2 : decode cX11_takenBy 2 = .ok (.iload_n 2, 1) := by decide +kernel
theorem dX11_takenBy_3 : decode cX11_takenBy 3 = .ok (.invokevirtual 250, 3) := by decide +kernel
theorem dX11_takenBy_6 : decode cX11_takenBy 6 = .ok (.ifCond .eq 7, 3) := by decide +kernel
theorem dX11_takenBy_9 : decode cX11_takenBy 9 = .ok (.iconst 0, 1) := by decide +kernel
theorem dX11_takenBy_10 : decode cX11_takenBy 10 = .ok (.goto 9, 3) := by decide +kernel
theorem dX11_takenBy_13 : decode cX11_takenBy 13 = .ok (.aload_n 0, 1) := by decide +kernel
theorem dX11_takenBy_14 : decode cX11_takenBy 14 = .ok (.iload_n 2, 1) := by decide +kernel
theorem dX11_takenBy_15 : decode cX11_takenBy 15 = .ok (.iconst 1, 1) := by decide +kernel
theorem dX11_takenBy_16 : decode cX11_takenBy 16 = .ok (.invokevirtual 59, 3) := by decide +kernel
theorem dX11_takenBy_19 : decode cX11_takenBy 19 = .ok (.aload_n 0, 1) := by decide +kernel
theorem dX11_takenBy_20 : decode cX11_takenBy 20 = .ok (.iload_n 1, 1) := by decide +kernel
theorem dX11_takenBy_21 : decode cX11_takenBy 21 = .ok (.iconst 3, 1) := by decide +kernel
theorem dX11_takenBy_22 : decode cX11_takenBy 22 = .ok (.invokevirtual 65, 3) := by decide +kernel
theorem dX11_takenBy_25 : decode cX11_takenBy 25 = .ok (.isub, 1) := by decide +kernel
theorem dX11_takenBy_26 : decode cX11_takenBy 26 = .ok (.invokestatic 253, 3) := by decide +kernel
theorem dX11_takenBy_29 : decode cX11_takenBy 29 = .ok (.istore_n 3, 1) := by decide +kernel
theorem dX11_takenBy_30 : decode cX11_takenBy 30 = .ok (.iload_n 3, 1) := by decide +kernel
theorem dX11_takenBy_31 : decode cX11_takenBy 31 = .ok (.aload_n 0, 1) := by decide +kernel
theorem dX11_takenBy_32 : decode cX11_takenBy 32 = .ok (.iconst 0, 1) := by decide +kernel
theorem dX11_takenBy_33 : decode cX11_takenBy 33 = .ok (.iload_n 1, 1) := by decide +kernel
theorem dX11_takenBy_34 : decode cX11_takenBy 34 = .ok (.iload_n 2, 1) := by decide +kernel
theorem dX11_takenBy_35 : decode cX11_takenBy 35 = .ok (.invokevirtual 258, 3) := by decide +kernel
theorem dX11_takenBy_38 : decode cX11_takenBy 38 = .ok (.aload_n 0, 1) := by decide +kernel
theorem dX11_takenBy_39 : decode cX11_takenBy 39 = .ok (.iconst 1, 1) := by decide +kernel
theorem dX11_takenBy_40 : decode cX11_takenBy 40 = .ok (.iload_n 1, 1) := by decide +kernel
theorem dX11_takenBy_41 : decode cX11_takenBy 41 = .ok (.iload_n 2, 1) := by decide +kernel
theorem dX11_takenBy_42 : decode cX11_takenBy 42 = .ok (.invokevirtual 258, 3) := by decide +kernel
theorem dX11_takenBy_45 : decode cX11_takenBy 45 = .ok (.isub, 1) := by decide +kernel
theorem dX11_takenBy_46 : decode cX11_takenBy 46 = .ok (.iadd, 1) := by decide +kernel
theorem dX11_takenBy_47 : decode cX11_takenBy 47 = .ok (.istore_n 3, 1) := by decide +kernel
theorem dX11_takenBy_48 : decode cX11_takenBy 48 = .ok (.aload_n 0, 1) := by decide +kernel
theorem dX11_takenBy_49 : decode cX11_takenBy 49 = .ok (.iload_n 1, 1) := by decide +kernel
theorem dX11_takenBy_50 : decode cX11_takenBy 50 = .ok (.iconst 2, 1) := by decide +kernel
theorem dX11_takenBy_51 : decode cX11_takenBy 51 = .ok (.invokevirtual 65, 3) := by decide +kernel
theorem dX11_takenBy_54 : decode cX11_takenBy 54 = .ok (.iconst 0, 1) := by decide +kernel
theorem dX11_takenBy_55 : decode cX11_takenBy 55 = .ok (.iload_n 3, 1) := by decide +kernel
theorem dX11_takenBy_56 : decode cX11_takenBy 56 = .ok (.invokestatic 253, 3) := by decide +kernel
theorem dX11_takenBy_59 : decode cX11_takenBy 59 = .ok (.invokestatic 262, 3) := by decide +kernel
theorem dX11_takenBy_62 : decode cX11_takenBy 62 = .ok (.ireturn, 1) := by decide +kernel
theorem dX11_pinchOf_0 : decode cX11_pinchOf 0 = .ok (.aload_n 0, 1) := by decide +kernel
theorem dX11_pinchOf_1 : decode cX11_pinchOf 1 = .ok (.invokevirtual 265, 3) := by decide +kernel
theorem dX11_pinchOf_4 : decode cX11_pinchOf 4 = .ok (.ifCond .ne 11, 3) := by decide +kernel
theorem dX11_pinchOf_7 : decode cX11_pinchOf 7 = .ok (.aload_n 0, 1) := by decide +kernel
theorem dX11_pinchOf_8 : decode cX11_pinchOf 8 = .ok (.iload_n 1, 1) := by decide +kernel
theorem dX11_pinchOf_9 : decode cX11_pinchOf 9 = .ok (.invokevirtual 268, 3) := by decide +kernel
theorem dX11_pinchOf_12 : decode cX11_pinchOf 12 = .ok (.ifCond .eq 7, 3) := by decide +kernel
theorem dX11_pinchOf_15 : decode cX11_pinchOf 15 = .ok (.iconst 0, 1) := by decide +kernel
theorem dX11_pinchOf_16 : decode cX11_pinchOf 16 = .ok (.goto 9, 3) := by decide +kernel
theorem dX11_pinchOf_19 : decode cX11_pinchOf 19 = .ok (.aload_n 0, 1) := by decide +kernel
theorem dX11_pinchOf_20 : decode cX11_pinchOf 20 = .ok (.iload_n 1, 1) := by decide +kernel
theorem dX11_pinchOf_21 : decode cX11_pinchOf 21 = .ok (.iload_n 2, 1) := by decide +kernel
theorem dX11_pinchOf_22 : decode cX11_pinchOf 22 = .ok (.invokevirtual 271, 3) := by decide +kernel
theorem dX11_pinchOf_25 : decode cX11_pinchOf 25 = .ok (.ireturn, 1) := by decide +kernel
theorem dX11_setsBy_0 : decode cX11_setsBy 0 = .ok (.iconst 1, 1) := by decide +kernel
theorem dX11_setsBy_1 : decode cX11_setsBy 1 = .ok (.aload_n 0, 1) := by decide +kernel
theorem dX11_setsBy_2 : decode cX11_setsBy 2 = .ok (.iconst 2, 1) := by decide +kernel
theorem dX11_setsBy_3 : decode cX11_setsBy 3 = .ok (.iload_n 1, 1) := by decide +kernel
theorem dX11_setsBy_4 : decode cX11_setsBy 4 = .ok (.iload_n 2, 1) := by decide +kernel
theorem dX11_setsBy_5 : decode cX11_setsBy 5 = .ok (.invokevirtual 258, 3) := by decide +kernel
theorem dX11_setsBy_8 : decode cX11_setsBy 8 = .ok (.iadd, 1) := by decide +kernel
theorem dX11_setsBy_9 : decode cX11_setsBy 9 = .ok (.ireturn, 1) := by decide +kernel
theorem dX11_mixedOf_0 : decode cX11_mixedOf 0 = .ok (.iconst 0, 1) := by decide +kernel
theorem dX11_mixedOf_1 : decode cX11_mixedOf 1 = .ok (.istore_n 2, 1) := by decide +kernel
theorem dX11_mixedOf_2 : decode cX11_mixedOf 2 = .ok (.iconst 0, 1) := by decide +kernel
theorem dX11_mixedOf_3 : decode cX11_mixedOf 3 = .ok (.istore_n 3, 1) := by decide +kernel
theorem dX11_mixedOf_4 : decode cX11_mixedOf 4 = .ok (.iload_n 3, 1) := by decide +kernel
theorem dX11_mixedOf_5 : decode cX11_mixedOf 5 = .ok (.bipush 6, 2) := by decide +kernel
theorem dX11_mixedOf_7 : decode cX11_mixedOf 7 = .ok (.if_icmp .ge 28, 3) := by decide +kernel
theorem dX11_mixedOf_10 : decode cX11_mixedOf 10 = .ok (.iload_n 2, 1) := by decide +kernel
theorem dX11_mixedOf_11 : decode cX11_mixedOf 11 = .ok (.aload_n 0, 1) := by decide +kernel
theorem dX11_mixedOf_12 : decode cX11_mixedOf 12 = .ok (.iload_n 1, 1) := by decide +kernel
theorem dX11_mixedOf_13 : decode cX11_mixedOf 13 = .ok (.iconst 3, 1) := by decide +kernel
theorem dX11_mixedOf_14 : decode cX11_mixedOf 14 = .ok (.iload_n 3, 1) := by decide +kernel
theorem dX11_mixedOf_15 : decode cX11_mixedOf 15 = .ok (.iadd, 1) := by decide +kernel
theorem dX11_mixedOf_16 : decode cX11_mixedOf 16 = .ok (.invokevirtual 59, 3) := by decide +kernel
theorem dX11_mixedOf_19 : decode cX11_mixedOf 19 = .ok (.ifCond .le 7, 3) := by decide +kernel
theorem dX11_mixedOf_22 : decode cX11_mixedOf 22 = .ok (.iconst 1, 1) := by decide +kernel
theorem dX11_mixedOf_23 : decode cX11_mixedOf 23 = .ok (.goto 4, 3) := by decide +kernel
theorem dX11_mixedOf_26 : decode cX11_mixedOf 26 = .ok (.iconst 0, 1) := by decide +kernel
theorem dX11_mixedOf_27 : decode cX11_mixedOf 27 = .ok (.iadd, 1) := by decide +kernel
theorem dX11_mixedOf_28 : decode cX11_mixedOf 28 = .ok (.istore_n 2, 1) := by decide +kernel
theorem dX11_mixedOf_29 : decode cX11_mixedOf 29 = .ok (.iinc 3 1, 3) := by decide +kernel
theorem dX11_mixedOf_32 : decode cX11_mixedOf 32 = .ok (.goto (-28), 3) := by decide +kernel
theorem dX11_mixedOf_35 : decode cX11_mixedOf 35 = .ok (.iload_n 2, 1) := by decide +kernel
theorem dX11_mixedOf_36 : decode cX11_mixedOf 36 = .ok (.ireturn, 1) := by decide +kernel
theorem dX11_allOf_0 : decode cX11_allOf 0 = .ok (.iconst 0, 1) := by decide +kernel
theorem dX11_allOf_1 : decode cX11_allOf 1 = .ok (.istore_n 2, 1) := by decide +kernel
theorem dX11_allOf_2 : decode cX11_allOf 2 = .ok (.iconst 0, 1) := by decide +kernel
theorem dX11_allOf_3 : decode cX11_allOf 3 = .ok (.istore_n 3, 1) := by decide +kernel
theorem dX11_allOf_4 : decode cX11_allOf 4 = .ok (.iload_n 3, 1) := by decide +kernel
theorem dX11_allOf_5 : decode cX11_allOf 5 = .ok (.bipush 6, 2) := by decide +kernel
theorem dX11_allOf_7 : decode cX11_allOf 7 = .ok (.if_icmp .ge 20, 3) := by decide +kernel
theorem dX11_allOf_10 : decode cX11_allOf 10 = .ok (.iload_n 2, 1) := by decide +kernel
theorem dX11_allOf_11 : decode cX11_allOf 11 = .ok (.aload_n 0, 1) := by decide +kernel
theorem dX11_allOf_12 : decode cX11_allOf 12 = .ok (.iload_n 1, 1) := by decide +kernel
theorem dX11_allOf_13 : decode cX11_allOf 13 = .ok (.iconst 3, 1) := by decide +kernel
theorem dX11_allOf_14 : decode cX11_allOf 14 = .ok (.iload_n 3, 1) := by decide +kernel
theorem dX11_allOf_15 : decode cX11_allOf 15 = .ok (.iadd, 1) := by decide +kernel
theorem dX11_allOf_16 : decode cX11_allOf 16 = .ok (.invokevirtual 59, 3) := by decide +kernel
theorem dX11_allOf_19 : decode cX11_allOf 19 = .ok (.iadd, 1) := by decide +kernel
theorem dX11_allOf_20 : decode cX11_allOf 20 = .ok (.istore_n 2, 1) := by decide +kernel
theorem dX11_allOf_21 : decode cX11_allOf 21 = .ok (.iinc 3 1, 3) := by decide +kernel
theorem dX11_allOf_24 : decode cX11_allOf 24 = .ok (.goto (-20), 3) := by decide +kernel
theorem dX11_allOf_27 : decode cX11_allOf 27 = .ok (.iload_n 2, 1) := by decide +kernel
theorem dX11_allOf_28 : decode cX11_allOf 28 = .ok (.ireturn, 1) := by decide +kernel
theorem dX11_diner_0 : decode cX11_diner 0 = .ok (.aload_n 0, 1) := by decide +kernel
theorem dX11_diner_1 : decode cX11_diner 1 = .ok (.iconst 0, 1) := by decide +kernel
theorem dX11_diner_2 : decode cX11_diner 2 = .ok (.putfield 3, 3) := by decide +kernel
theorem dX11_diner_5 : decode cX11_diner 5 = .ok (.aload_n 0, 1) := by decide +kernel
theorem dX11_diner_6 : decode cX11_diner 6 = .ok (.aload_n 0, 1) := by decide +kernel
theorem dX11_diner_7 : decode cX11_diner 7 = .ok (.iload_n 1, 1) := by decide +kernel
theorem dX11_diner_8 : decode cX11_diner 8 = .ok (.invokevirtual 274, 3) := by decide +kernel
theorem dX11_diner_11 : decode cX11_diner 11 = .ok (.iconst 1, 1) := by decide +kernel
theorem dX11_diner_12 : decode cX11_diner 12 = .ok (.invokevirtual 240, 3) := by decide +kernel
theorem dX11_diner_15 : decode cX11_diner 15 = .ok (.ifCond .ne 25, 3) := by decide +kernel
theorem dX11_diner_18 : decode cX11_diner 18 = .ok (.aload_n 0, 1) := by decide +kernel
theorem dX11_diner_19 : decode cX11_diner 19 = .ok (.iload_n 2, 1) := by decide +kernel
theorem dX11_diner_20 : decode cX11_diner 20 = .ok (.iconst 0, 1) := by decide +kernel
theorem dX11_diner_21 : decode cX11_diner 21 = .ok (.iconst 4, 1) := by decide +kernel
theorem dX11_diner_22 : decode cX11_diner 22 = .ok (.invokestatic 72, 3) := by decide +kernel
theorem dX11_diner_25 : decode cX11_diner 25 = .ok (.ifCond .ne 7, 3) := by decide +kernel
theorem dX11_diner_28 : decode cX11_diner 28 = .ok (.iconst 1, 1) := by decide +kernel
theorem dX11_diner_29 : decode cX11_diner 29 = .ok (.goto 4, 3) := by decide +kernel
theorem dX11_diner_32 : decode cX11_diner 32 = .ok (.iconst 0, 1) := by decide +kernel
theorem dX11_diner_33 : decode cX11_diner 33 = .ok (.iconst 2, 1) := by decide +kernel
theorem dX11_diner_34 : decode cX11_diner 34 = .ok (.invokevirtual 240, 3) := by decide +kernel
theorem dX11_diner_37 : decode cX11_diner 37 = .ok (.ifCond .eq 5, 3) := by decide +kernel
theorem dX11_diner_40 : decode cX11_diner 40 = .ok (.iconst 0, 1) := by decide +kernel
theorem dX11_diner_41 : decode cX11_diner 41 = .ok (.ireturn, 1) := by decide +kernel
theorem dX11_diner_42 : decode cX11_diner 42 = .ok (.iload_n 2, 1) := by decide +kernel
theorem dX11_diner_43 : decode cX11_diner 43 = .ok (.iconst 3, 1) := by decide +kernel
theorem dX11_diner_44 : decode cX11_diner 44 = .ok (.if_icmp .ne 11, 3) := by decide +kernel
theorem dX11_diner_47 : decode cX11_diner 47 = .ok (.aload_n 0, 1) := by decide +kernel
theorem dX11_diner_48 : decode cX11_diner 48 = .ok (.iload_n 1, 1) := by decide +kernel
theorem dX11_diner_49 : decode cX11_diner 49 = .ok (.invokevirtual 277, 3) := by decide +kernel
theorem dX11_diner_52 : decode cX11_diner 52 = .ok (.goto 22, 3) := by decide +kernel
theorem dX11_diner_55 : decode cX11_diner 55 = .ok (.iload_n 2, 1) := by decide +kernel
theorem dX11_diner_56 : decode cX11_diner 56 = .ok (.iconst 4, 1) := by decide +kernel
theorem dX11_diner_57 : decode cX11_diner 57 = .ok (.if_icmp .ne 11, 3) := by decide +kernel
theorem dX11_diner_60 : decode cX11_diner 60 = .ok (.aload_n 0, 1) := by decide +kernel
theorem dX11_diner_61 : decode cX11_diner 61 = .ok (.iload_n 1, 1) := by decide +kernel
theorem dX11_diner_62 : decode cX11_diner 62 = .ok (.invokevirtual 280, 3) := by decide +kernel
theorem dX11_diner_65 : decode cX11_diner 65 = .ok (.goto 9, 3) := by decide +kernel
theorem dX11_diner_68 : decode cX11_diner 68 = .ok (.aload_n 0, 1) := by decide +kernel
theorem dX11_diner_69 : decode cX11_diner 69 = .ok (.iload_n 1, 1) := by decide +kernel
theorem dX11_diner_70 : decode cX11_diner 70 = .ok (.iload_n 2, 1) := by decide +kernel
theorem dX11_diner_71 : decode cX11_diner 71 = .ok (.invokevirtual 59, 3) := by decide +kernel
theorem dX11_diner_74 : decode cX11_diner 74 = .ok (.ireturn, 1) := by decide +kernel
theorem dX11_has_0 : decode cX11_has 0 = .ok (.aload_n 0, 1) := by decide +kernel
theorem dX11_has_1 : decode cX11_has 1 = .ok (.iconst 0, 1) := by decide +kernel
theorem dX11_has_2 : decode cX11_has 2 = .ok (.putfield 3, 3) := by decide +kernel
theorem dX11_has_5 : decode cX11_has 5 = .ok (.aload_n 0, 1) := by decide +kernel
theorem dX11_has_6 : decode cX11_has 6 = .ok (.aload_n 0, 1) := by decide +kernel
theorem dX11_has_7 : decode cX11_has 7 = .ok (.iload_n 1, 1) := by decide +kernel
theorem dX11_has_8 : decode cX11_has 8 = .ok (.invokevirtual 274, 3) := by decide +kernel
theorem dX11_has_11 : decode cX11_has 11 = .ok (.ifCond .ne 10, 3) := by decide +kernel
theorem dX11_has_14 : decode cX11_has 14 = .ok (.iload_n 2, 1) := by decide +kernel
theorem dX11_has_15 : decode cX11_has 15 = .ok (.invokestatic 138, 3) := by decide +kernel
theorem dX11_has_18 : decode cX11_has 18 = .ok (.ifCond .eq 7, 3) := by decide +kernel
theorem dX11_has_21 : decode cX11_has 21 = .ok (.iconst 1, 1) := by decide +kernel
theorem dX11_has_22 : decode cX11_has 22 = .ok (.goto 4, 3) := by decide +kernel
theorem dX11_has_25 : decode cX11_has 25 = .ok (.iconst 0, 1) := by decide +kernel
theorem dX11_has_26 : decode cX11_has 26 = .ok (.iconst 1, 1) := by decide +kernel
theorem dX11_has_27 : decode cX11_has 27 = .ok (.invokevirtual 240, 3) := by decide +kernel
theorem dX11_has_30 : decode cX11_has 30 = .ok (.ifCond .eq 7, 3) := by decide +kernel
theorem dX11_has_33 : decode cX11_has 33 = .ok (.iconst 0, 1) := by decide +kernel
theorem dX11_has_34 : decode cX11_has 34 = .ok (.goto 11, 3) := by decide +kernel
theorem dX11_has_37 : decode cX11_has 37 = .ok (.aload_n 0, 1) := by decide +kernel
theorem dX11_has_38 : decode cX11_has 38 = .ok (.iload_n 1, 1) := by decide +kernel
theorem dX11_has_39 : decode cX11_has 39 = .ok (.iconst 3, 1) := by decide +kernel
theorem dX11_has_40 : decode cX11_has 40 = .ok (.iload_n 2, 1) := by decide +kernel
theorem dX11_has_41 : decode cX11_has 41 = .ok (.iadd, 1) := by decide +kernel
theorem dX11_has_42 : decode cX11_has 42 = .ok (.invokevirtual 59, 3) := by decide +kernel
theorem dX11_has_45 : decode cX11_has 45 = .ok (.ireturn, 1) := by decide +kernel
theorem dX11_cellar_0 : decode cX11_cellar 0 = .ok (.aload_n 0, 1) := by decide +kernel
theorem dX11_cellar_1 : decode cX11_cellar 1 = .ok (.iconst 0, 1) := by decide +kernel
theorem dX11_cellar_2 : decode cX11_cellar 2 = .ok (.putfield 3, 3) := by decide +kernel
theorem dX11_cellar_5 : decode cX11_cellar 5 = .ok (.aload_n 0, 1) := by decide +kernel
theorem dX11_cellar_6 : decode cX11_cellar 6 = .ok (.aload_n 0, 1) := by decide +kernel
theorem dX11_cellar_7 : decode cX11_cellar 7 = .ok (.iload_n 1, 1) := by decide +kernel
theorem dX11_cellar_8 : decode cX11_cellar 8 = .ok (.invokevirtual 283, 3) := by decide +kernel
theorem dX11_cellar_11 : decode cX11_cellar 11 = .ok (.iconst 1, 1) := by decide +kernel
theorem dX11_cellar_12 : decode cX11_cellar 12 = .ok (.invokevirtual 240, 3) := by decide +kernel
theorem dX11_cellar_15 : decode cX11_cellar 15 = .ok (.ifCond .ne 26, 3) := by decide +kernel
theorem dX11_cellar_18 : decode cX11_cellar 18 = .ok (.aload_n 0, 1) := by decide +kernel
theorem dX11_cellar_19 : decode cX11_cellar 19 = .ok (.iload_n 2, 1) := by decide +kernel
theorem dX11_cellar_20 : decode cX11_cellar 20 = .ok (.iconst 0, 1) := by decide +kernel
theorem dX11_cellar_21 : decode cX11_cellar 21 = .ok (.bipush 7, 2) := by decide +kernel
theorem dX11_cellar_23 : decode cX11_cellar 23 = .ok (.invokestatic 72, 3) := by decide +kernel
theorem dX11_cellar_26 : decode cX11_cellar 26 = .ok (.ifCond .ne 7, 3) := by decide +kernel
theorem dX11_cellar_29 : decode cX11_cellar 29 = .ok (.iconst 1, 1) := by decide +kernel
theorem dX11_cellar_30 : decode cX11_cellar 30 = .ok (.goto 4, 3) := by decide +kernel
theorem dX11_cellar_33 : decode cX11_cellar 33 = .ok (.iconst 0, 1) := by decide +kernel
theorem dX11_cellar_34 : decode cX11_cellar 34 = .ok (.iconst 2, 1) := by decide +kernel
theorem dX11_cellar_35 : decode cX11_cellar 35 = .ok (.invokevirtual 240, 3) := by decide +kernel
theorem dX11_cellar_38 : decode cX11_cellar 38 = .ok (.ifCond .eq 5, 3) := by decide +kernel
theorem dX11_cellar_41 : decode cX11_cellar 41 = .ok (.iconst 0, 1) := by decide +kernel
theorem dX11_cellar_42 : decode cX11_cellar 42 = .ok (.ireturn, 1) := by decide +kernel
theorem dX11_cellar_43 : decode cX11_cellar 43 = .ok (.aload_n 0, 1) := by decide +kernel
theorem dX11_cellar_44 : decode cX11_cellar 44 = .ok (.iload_n 1, 1) := by decide +kernel
theorem dX11_cellar_45 : decode cX11_cellar 45 = .ok (.invokevirtual 286, 3) := by decide +kernel
theorem dX11_cellar_48 : decode cX11_cellar 48 = .ok (.istore_n 3, 1) := by decide +kernel
theorem dX11_cellar_49 : decode cX11_cellar 49 = .ok (.iload_n 2, 1) := by decide +kernel
theorem dX11_cellar_50 : decode cX11_cellar 50 = .ok (.tableswitch 60 5 7 #[26, 28, 44], 26) := by decide +kernel
theorem dX11_cellar_76 : decode cX11_cellar 76 = .ok (.iload_n 3, 1) := by decide +kernel
theorem dX11_cellar_77 : decode cX11_cellar 77 = .ok (.ireturn, 1) := by decide +kernel
theorem dX11_cellar_78 : decode cX11_cellar 78 = .ok (.iload_n 3, 1) := by decide +kernel
theorem dX11_cellar_79 : decode cX11_cellar 79 = .ok (.iconst (-1), 1) := by decide +kernel
theorem dX11_cellar_80 : decode cX11_cellar 80 = .ok (.if_icmp .ne 7, 3) := by decide +kernel
theorem dX11_cellar_83 : decode cX11_cellar 83 = .ok (.iconst 0, 1) := by decide +kernel
theorem dX11_cellar_84 : decode cX11_cellar 84 = .ok (.goto 9, 3) := by decide +kernel
theorem dX11_cellar_87 : decode cX11_cellar 87 = .ok (.aload_n 0, 1) := by decide +kernel
theorem dX11_cellar_88 : decode cX11_cellar 88 = .ok (.iload_n 1, 1) := by decide +kernel
theorem dX11_cellar_89 : decode cX11_cellar 89 = .ok (.iload_n 3, 1) := by decide +kernel
theorem dX11_cellar_90 : decode cX11_cellar 90 = .ok (.invokevirtual 289, 3) := by decide +kernel
theorem dX11_cellar_93 : decode cX11_cellar 93 = .ok (.ireturn, 1) := by decide +kernel
theorem dX11_cellar_94 : decode cX11_cellar 94 = .ok (.iload_n 3, 1) := by decide +kernel
theorem dX11_cellar_95 : decode cX11_cellar 95 = .ok (.iconst (-1), 1) := by decide +kernel
theorem dX11_cellar_96 : decode cX11_cellar 96 = .ok (.if_icmp .ne 7, 3) := by decide +kernel
theorem dX11_cellar_99 : decode cX11_cellar 99 = .ok (.iconst 0, 1) := by decide +kernel
theorem dX11_cellar_100 : decode cX11_cellar 100 = .ok (.goto 9, 3) := by decide +kernel
theorem dX11_cellar_103 : decode cX11_cellar 103 = .ok (.aload_n 0, 1) := by decide +kernel
theorem dX11_cellar_104 : decode cX11_cellar 104 = .ok (.iload_n 1, 1) := by decide +kernel
theorem dX11_cellar_105 : decode cX11_cellar 105 = .ok (.iload_n 3, 1) := by decide +kernel
theorem dX11_cellar_106 : decode cX11_cellar 106 = .ok (.invokevirtual 292, 3) := by decide +kernel
theorem dX11_cellar_109 : decode cX11_cellar 109 = .ok (.ireturn, 1) := by decide +kernel
theorem dX11_cellar_110 : decode cX11_cellar 110 = .ok (.aload_n 0, 1) := by decide +kernel
theorem dX11_cellar_111 : decode cX11_cellar 111 = .ok (.iload_n 1, 1) := by decide +kernel
theorem dX11_cellar_112 : decode cX11_cellar 112 = .ok (.iload_n 2, 1) := by decide +kernel
theorem dX11_cellar_113 : decode cX11_cellar 113 = .ok (.invokevirtual 65, 3) := by decide +kernel
theorem dX11_cellar_116 : decode cX11_cellar 116 = .ok (.ireturn, 1) := by decide +kernel
theorem dX11_seat_0 : decode cX11_seat 0 = .ok (.aload_n 0, 1) := by decide +kernel
theorem dX11_seat_1 : decode cX11_seat 1 = .ok (.iconst 0, 1) := by decide +kernel
theorem dX11_seat_2 : decode cX11_seat 2 = .ok (.putfield 3, 3) := by decide +kernel
theorem dX11_seat_5 : decode cX11_seat 5 = .ok (.aload_n 0, 1) := by decide +kernel
theorem dX11_seat_6 : decode cX11_seat 6 = .ok (.iload_n 1, 1) := by decide +kernel
theorem dX11_seat_7 : decode cX11_seat 7 = .ok (.invokestatic 295, 3) := by decide +kernel
theorem dX11_seat_10 : decode cX11_seat 10 = .ok (.iconst 1, 1) := by decide +kernel
theorem dX11_seat_11 : decode cX11_seat 11 = .ok (.invokevirtual 240, 3) := by decide +kernel
theorem dX11_seat_14 : decode cX11_seat 14 = .ok (.ifCond .eq 7, 3) := by decide +kernel
theorem dX11_seat_17 : decode cX11_seat 17 = .ok (.iconst 0, 1) := by decide +kernel
theorem dX11_seat_18 : decode cX11_seat 18 = .ok (.goto 8, 3) := by decide +kernel
theorem dX11_seat_21 : decode cX11_seat 21 = .ok (.aload_n 0, 1) := by decide +kernel
theorem dX11_seat_22 : decode cX11_seat 22 = .ok (.iload_n 1, 1) := by decide +kernel
theorem dX11_seat_23 : decode cX11_seat 23 = .ok (.invokevirtual 79, 3) := by decide +kernel
theorem dX11_seat_26 : decode cX11_seat 26 = .ok (.ireturn, 1) := by decide +kernel
theorem dX11_pass_0 : decode cX11_pass 0 = .ok (.aload_n 0, 1) := by decide +kernel
theorem dX11_pass_1 : decode cX11_pass 1 = .ok (.iconst 0, 1) := by decide +kernel
theorem dX11_pass_2 : decode cX11_pass 2 = .ok (.putfield 3, 3) := by decide +kernel
theorem dX11_pass_5 : decode cX11_pass 5 = .ok (.aload_n 0, 1) := by decide +kernel
theorem dX11_pass_6 : decode cX11_pass 6 = .ok (.aload_n 0, 1) := by decide +kernel
theorem dX11_pass_7 : decode cX11_pass 7 = .ok (.iload_n 1, 1) := by decide +kernel
theorem dX11_pass_8 : decode cX11_pass 8 = .ok (.invokevirtual 283, 3) := by decide +kernel
theorem dX11_pass_11 : decode cX11_pass 11 = .ok (.ifCond .ne 10, 3) := by decide +kernel
theorem dX11_pass_14 : decode cX11_pass 14 = .ok (.iload_n 2, 1) := by decide +kernel
theorem dX11_pass_15 : decode cX11_pass 15 = .ok (.invokestatic 295, 3) := by decide +kernel
theorem dX11_pass_18 : decode cX11_pass 18 = .ok (.ifCond .eq 7, 3) := by decide +kernel
theorem dX11_pass_21 : decode cX11_pass 21 = .ok (.iconst 1, 1) := by decide +kernel
theorem dX11_pass_22 : decode cX11_pass 22 = .ok (.goto 4, 3) := by decide +kernel
theorem dX11_pass_25 : decode cX11_pass 25 = .ok (.iconst 0, 1) := by decide +kernel
theorem dX11_pass_26 : decode cX11_pass 26 = .ok (.iconst 1, 1) := by decide +kernel
theorem dX11_pass_27 : decode cX11_pass 27 = .ok (.invokevirtual 240, 3) := by decide +kernel
theorem dX11_pass_30 : decode cX11_pass 30 = .ok (.ifCond .eq 5, 3) := by decide +kernel
theorem dX11_pass_33 : decode cX11_pass 33 = .ok (.iconst 0, 1) := by decide +kernel
theorem dX11_pass_34 : decode cX11_pass 34 = .ok (.ireturn, 1) := by decide +kernel
theorem dX11_pass_35 : decode cX11_pass 35 = .ok (.aload_n 0, 1) := by decide +kernel
theorem dX11_pass_36 : decode cX11_pass 36 = .ok (.invokevirtual 298, 3) := by decide +kernel
theorem dX11_pass_39 : decode cX11_pass 39 = .ok (.aload_n 0, 1) := by decide +kernel
theorem dX11_pass_40 : decode cX11_pass 40 = .ok (.iload_n 1, 1) := by decide +kernel
theorem dX11_pass_41 : decode cX11_pass 41 = .ok (.iconst 0, 1) := by decide +kernel
theorem dX11_pass_42 : decode cX11_pass 42 = .ok (.invokevirtual 65, 3) := by decide +kernel
theorem dX11_pass_45 : decode cX11_pass 45 = .ok (.istore_n 3, 1) := by decide +kernel
theorem dX11_pass_46 : decode cX11_pass 46 = .ok (.aload_n 0, 1) := by decide +kernel
theorem dX11_pass_47 : decode cX11_pass 47 = .ok (.getfield 13, 3) := by decide +kernel
theorem dX11_pass_50 : decode cX11_pass 50 = .ok (.iload_n 1, 1) := by decide +kernel
theorem dX11_pass_51 : decode cX11_pass 51 = .ok (.iconst 0, 1) := by decide +kernel
theorem dX11_pass_52 : decode cX11_pass 52 = .ok (.invokestatic 62, 3) := by decide +kernel
theorem dX11_pass_55 : decode cX11_pass 55 = .ok (.iload_n 2, 1) := by decide +kernel
theorem dX11_pass_56 : decode cX11_pass 56 = .ok (.iastore, 1) := by decide +kernel
theorem dX11_pass_57 : decode cX11_pass 57 = .ok (.iload_n 3, 1) := by decide +kernel
theorem dX11_pass_58 : decode cX11_pass 58 = .ok (.ireturn, 1) := by decide +kernel
theorem dX11_knock_0 : decode cX11_knock 0 = .ok (.aload_n 0, 1) := by decide +kernel
theorem dX11_knock_1 : decode cX11_knock 1 = .ok (.iconst 0, 1) := by decide +kernel
theorem dX11_knock_2 : decode cX11_knock 2 = .ok (.putfield 3, 3) := by decide +kernel
theorem dX11_knock_5 : decode cX11_knock 5 = .ok (.aload_n 0, 1) := by decide +kernel
theorem dX11_knock_6 : decode cX11_knock 6 = .ok (.aload_n 0, 1) := by decide +kernel
theorem dX11_knock_7 : decode cX11_knock 7 = .ok (.iload_n 1, 1) := by decide +kernel
theorem dX11_knock_8 : decode cX11_knock 8 = .ok (.invokevirtual 283, 3) := by decide +kernel
theorem dX11_knock_11 : decode cX11_knock 11 = .ok (.iconst 1, 1) := by decide +kernel
theorem dX11_knock_12 : decode cX11_knock 12 = .ok (.invokevirtual 240, 3) := by decide +kernel
theorem dX11_knock_15 : decode cX11_knock 15 = .ok (.ifCond .eq 5, 3) := by decide +kernel
theorem dX11_knock_18 : decode cX11_knock 18 = .ok (.iconst 0, 1) := by decide +kernel
theorem dX11_knock_19 : decode cX11_knock 19 = .ok (.ireturn, 1) := by decide +kernel
theorem dX11_knock_20 : decode cX11_knock 20 = .ok (.aload_n 0, 1) := by decide +kernel
theorem dX11_knock_21 : decode cX11_knock 21 = .ok (.invokevirtual 298, 3) := by decide +kernel
theorem dX11_knock_24 : decode cX11_knock 24 = .ok (.aload_n 0, 1) := by decide +kernel
theorem dX11_knock_25 : decode cX11_knock 25 = .ok (.iload_n 1, 1) := by decide +kernel
theorem dX11_knock_26 : decode cX11_knock 26 = .ok (.iconst 3, 1) := by decide +kernel
theorem dX11_knock_27 : decode cX11_knock 27 = .ok (.invokevirtual 65, 3) := by decide +kernel
theorem dX11_knock_30 : decode cX11_knock 30 = .ok (.istore_n 2, 1) := by decide +kernel
theorem dX11_knock_31 : decode cX11_knock 31 = .ok (.aload_n 0, 1) := by decide +kernel
theorem dX11_knock_32 : decode cX11_knock 32 = .ok (.getfield 13, 3) := by decide +kernel
theorem dX11_knock_35 : decode cX11_knock 35 = .ok (.iload_n 1, 1) := by decide +kernel
theorem dX11_knock_36 : decode cX11_knock 36 = .ok (.iconst 3, 1) := by decide +kernel
theorem dX11_knock_37 : decode cX11_knock 37 = .ok (.invokestatic 62, 3) := by decide +kernel
theorem dX11_knock_40 : decode cX11_knock 40 = .ok (.iconst 0, 1) := by decide +kernel
theorem dX11_knock_41 : decode cX11_knock 41 = .ok (.iastore, 1) := by decide +kernel
theorem dX11_knock_42 : decode cX11_knock 42 = .ok (.iload_n 2, 1) := by decide +kernel
theorem dX11_knock_43 : decode cX11_knock 43 = .ok (.ireturn, 1) := by decide +kernel
theorem dX11_fill_0 : decode cX11_fill 0 = .ok (.aload_n 0, 1) := by decide +kernel
theorem dX11_fill_1 : decode cX11_fill 1 = .ok (.iconst 0, 1) := by decide +kernel
theorem dX11_fill_2 : decode cX11_fill 2 = .ok (.putfield 3, 3) := by decide +kernel
theorem dX11_fill_5 : decode cX11_fill 5 = .ok (.aload_n 0, 1) := by decide +kernel
theorem dX11_fill_6 : decode cX11_fill 6 = .ok (.aload_n 0, 1) := by decide +kernel
theorem dX11_fill_7 : decode cX11_fill 7 = .ok (.iload_n 1, 1) := by decide +kernel
theorem dX11_fill_8 : decode cX11_fill 8 = .ok (.invokevirtual 283, 3) := by decide +kernel
theorem dX11_fill_11 : decode cX11_fill 11 = .ok (.iconst 1, 1) := by decide +kernel
theorem dX11_fill_12 : decode cX11_fill 12 = .ok (.invokevirtual 240, 3) := by decide +kernel
theorem dX11_fill_15 : decode cX11_fill 15 = .ok (.ifCond .ne 27, 3) := by decide +kernel
theorem dX11_fill_18 : decode cX11_fill 18 = .ok (.aload_n 0, 1) := by decide +kernel
theorem dX11_fill_19 : decode cX11_fill 19 = .ok (.iload_n 2, 1) := by decide +kernel
theorem dX11_fill_20 : decode cX11_fill 20 = .ok (.iconst 1, 1) := by decide +kernel
theorem dX11_fill_21 : decode cX11_fill 21 = .ok (.sipush 200, 3) := by decide +kernel
theorem dX11_fill_24 : decode cX11_fill 24 = .ok (.invokestatic 72, 3) := by decide +kernel
theorem dX11_fill_27 : decode cX11_fill 27 = .ok (.ifCond .ne 7, 3) := by decide +kernel
theorem dX11_fill_30 : decode cX11_fill 30 = .ok (.iconst 1, 1) := by decide +kernel
theorem dX11_fill_31 : decode cX11_fill 31 = .ok (.goto 4, 3) := by decide +kernel
theorem dX11_fill_34 : decode cX11_fill 34 = .ok (.iconst 0, 1) := by decide +kernel
theorem dX11_fill_35 : decode cX11_fill 35 = .ok (.iconst 2, 1) := by decide +kernel
theorem dX11_fill_36 : decode cX11_fill 36 = .ok (.invokevirtual 240, 3) := by decide +kernel
theorem dX11_fill_39 : decode cX11_fill 39 = .ok (.ifCond .eq 5, 3) := by decide +kernel
theorem dX11_fill_42 : decode cX11_fill 42 = .ok (.iconst 0, 1) := by decide +kernel
theorem dX11_fill_43 : decode cX11_fill 43 = .ok (.ireturn, 1) := by decide +kernel
theorem dX11_fill_44 : decode cX11_fill 44 = .ok (.aload_n 0, 1) := by decide +kernel
theorem dX11_fill_45 : decode cX11_fill 45 = .ok (.invokevirtual 298, 3) := by decide +kernel
theorem dX11_fill_48 : decode cX11_fill 48 = .ok (.aload_n 0, 1) := by decide +kernel
theorem dX11_fill_49 : decode cX11_fill 49 = .ok (.getfield 13, 3) := by decide +kernel
theorem dX11_fill_52 : decode cX11_fill 52 = .ok (.iload_n 1, 1) := by decide +kernel
theorem dX11_fill_53 : decode cX11_fill 53 = .ok (.iconst 2, 1) := by decide +kernel
theorem dX11_fill_54 : decode cX11_fill 54 = .ok (.invokestatic 62, 3) := by decide +kernel
theorem dX11_fill_57 : decode cX11_fill 57 = .ok (.sipush 200, 3) := by decide +kernel
theorem dX11_fill_60 : decode cX11_fill 60 = .ok (.aload_n 0, 1) := by decide +kernel
theorem dX11_fill_61 : decode cX11_fill 61 = .ok (.iload_n 1, 1) := by decide +kernel
theorem dX11_fill_62 : decode cX11_fill 62 = .ok (.iconst 2, 1) := by decide +kernel
theorem dX11_fill_63 : decode cX11_fill 63 = .ok (.invokevirtual 65, 3) := by decide +kernel
theorem dX11_fill_66 : decode cX11_fill 66 = .ok (.iload_n 2, 1) := by decide +kernel
theorem dX11_fill_67 : decode cX11_fill 67 = .ok (.iadd, 1) := by decide +kernel
theorem dX11_fill_68 : decode cX11_fill 68 = .ok (.invokestatic 262, 3) := by decide +kernel
theorem dX11_fill_71 : decode cX11_fill 71 = .ok (.iastore, 1) := by decide +kernel
theorem dX11_fill_72 : decode cX11_fill 72 = .ok (.aload_n 0, 1) := by decide +kernel
theorem dX11_fill_73 : decode cX11_fill 73 = .ok (.iload_n 1, 1) := by decide +kernel
theorem dX11_fill_74 : decode cX11_fill 74 = .ok (.iconst 2, 1) := by decide +kernel
theorem dX11_fill_75 : decode cX11_fill 75 = .ok (.invokevirtual 65, 3) := by decide +kernel
theorem dX11_fill_78 : decode cX11_fill 78 = .ok (.ireturn, 1) := by decide +kernel
theorem dX11_exchanges_0 : decode cX11_exchanges 0 = .ok (.aload_n 0, 1) := by decide +kernel
theorem dX11_exchanges_1 : decode cX11_exchanges 1 = .ok (.iload_n 1, 1) := by decide +kernel
theorem dX11_exchanges_2 : decode cX11_exchanges 2 = .ok (.invokevirtual 79, 3) := by decide +kernel
theorem dX11_exchanges_5 : decode cX11_exchanges 5 = .ok (.istore_n 3, 1) := by decide +kernel
theorem dX11_exchanges_6 : decode cX11_exchanges 6 = .ok (.aload_n 0, 1) := by decide +kernel
theorem dX11_exchanges_7 : decode cX11_exchanges 7 = .ok (.iload_n 2, 1) := by decide +kernel
theorem dX11_exchanges_8 : decode cX11_exchanges 8 = .ok (.invokevirtual 79, 3) := by decide +kernel
theorem dX11_exchanges_11 : decode cX11_exchanges 11 = .ok (.istore 4, 2) := by decide +kernel
theorem dX11_exchanges_13 : decode cX11_exchanges 13 = .ok (.iload_n 3, 1) := by decide +kernel
theorem dX11_exchanges_14 : decode cX11_exchanges 14 = .ok (.iconst (-1), 1) := by decide +kernel
theorem dX11_exchanges_15 : decode cX11_exchanges 15 = .ok (.if_icmp .eq 14, 3) := by decide +kernel
theorem dX11_exchanges_18 : decode cX11_exchanges 18 = .ok (.aload_n 0, 1) := by decide +kernel
theorem dX11_exchanges_19 : decode cX11_exchanges 19 = .ok (.getfield 13, 3) := by decide +kernel
theorem dX11_exchanges_22 : decode cX11_exchanges 22 = .ok (.iload_n 3, 1) := by decide +kernel
theorem dX11_exchanges_23 : decode cX11_exchanges 23 = .ok (.iconst 0, 1) := by decide +kernel
theorem dX11_exchanges_24 : decode cX11_exchanges 24 = .ok (.invokestatic 55, 3) := by decide +kernel
theorem dX11_exchanges_27 : decode cX11_exchanges 27 = .ok (.iload_n 2, 1) := by decide +kernel
theorem dX11_exchanges_28 : decode cX11_exchanges 28 = .ok (.iastore, 1) := by decide +kernel
theorem dX11_exchanges_29 : decode cX11_exchanges 29 = .ok (.iload 4, 2) := by decide +kernel
theorem dX11_exchanges_31 : decode cX11_exchanges 31 = .ok (.iconst (-1), 1) := by decide +kernel
theorem dX11_exchanges_32 : decode cX11_exchanges 32 = .ok (.if_icmp .eq 15, 3) := by decide +kernel
theorem dX11_exchanges_35 : decode cX11_exchanges 35 = .ok (.aload_n 0, 1) := by decide +kernel
theorem dX11_exchanges_36 : decode cX11_exchanges 36 = .ok (.getfield 13, 3) := by decide +kernel
theorem dX11_exchanges_39 : decode cX11_exchanges 39 = .ok (.iload 4, 2) := by decide +kernel
theorem dX11_exchanges_41 : decode cX11_exchanges 41 = .ok (.iconst 0, 1) := by decide +kernel
theorem dX11_exchanges_42 : decode cX11_exchanges 42 = .ok (.invokestatic 55, 3) := by decide +kernel
theorem dX11_exchanges_45 : decode cX11_exchanges 45 = .ok (.iload_n 1, 1) := by decide +kernel
theorem dX11_exchanges_46 : decode cX11_exchanges 46 = .ok (.iastore, 1) := by decide +kernel
theorem dX11_exchanges_47 : decode cX11_exchanges 47 = .ok (.return_, 1) := by decide +kernel
theorem dX11_change_0 : decode cX11_change 0 = .ok (.aload_n 0, 1) := by decide +kernel
theorem dX11_change_1 : decode cX11_change 1 = .ok (.iconst 0, 1) := by decide +kernel
theorem dX11_change_2 : decode cX11_change 2 = .ok (.putfield 3, 3) := by decide +kernel
theorem dX11_change_5 : decode cX11_change 5 = .ok (.aload_n 0, 1) := by decide +kernel
theorem dX11_change_6 : decode cX11_change 6 = .ok (.iload_n 1, 1) := by decide +kernel
theorem dX11_change_7 : decode cX11_change 7 = .ok (.invokestatic 295, 3) := by decide +kernel
theorem dX11_change_10 : decode cX11_change 10 = .ok (.ifCond .ne 10, 3) := by decide +kernel
theorem dX11_change_13 : decode cX11_change 13 = .ok (.iload_n 2, 1) := by decide +kernel
theorem dX11_change_14 : decode cX11_change 14 = .ok (.invokestatic 295, 3) := by decide +kernel
theorem dX11_change_17 : decode cX11_change 17 = .ok (.ifCond .eq 7, 3) := by decide +kernel
theorem dX11_change_20 : decode cX11_change 20 = .ok (.iconst 1, 1) := by decide +kernel
theorem dX11_change_21 : decode cX11_change 21 = .ok (.goto 4, 3) := by decide +kernel
theorem dX11_change_24 : decode cX11_change 24 = .ok (.iconst 0, 1) := by decide +kernel
theorem dX11_change_25 : decode cX11_change 25 = .ok (.iconst 1, 1) := by decide +kernel
theorem dX11_change_26 : decode cX11_change 26 = .ok (.invokevirtual 240, 3) := by decide +kernel
theorem dX11_change_29 : decode cX11_change 29 = .ok (.ifCond .ne 21, 3) := by decide +kernel
theorem dX11_change_32 : decode cX11_change 32 = .ok (.aload_n 0, 1) := by decide +kernel
theorem dX11_change_33 : decode cX11_change 33 = .ok (.iload_n 1, 1) := by decide +kernel
theorem dX11_change_34 : decode cX11_change 34 = .ok (.iload_n 2, 1) := by decide +kernel
theorem dX11_change_35 : decode cX11_change 35 = .ok (.if_icmp .ne 7, 3) := by decide +kernel
theorem dX11_change_38 : decode cX11_change 38 = .ok (.iconst 1, 1) := by decide +kernel
theorem dX11_change_39 : decode cX11_change 39 = .ok (.goto 4, 3) := by decide +kernel
theorem dX11_change_42 : decode cX11_change 42 = .ok (.iconst 0, 1) := by decide +kernel
theorem dX11_change_43 : decode cX11_change 43 = .ok (.iconst 2, 1) := by decide +kernel
theorem dX11_change_44 : decode cX11_change 44 = .ok (.invokevirtual 240, 3) := by decide +kernel
theorem dX11_change_47 : decode cX11_change 47 = .ok (.ifCond .eq 5, 3) := by decide +kernel
theorem dX11_change_50 : decode cX11_change 50 = .ok (.iconst 0, 1) := by decide +kernel
theorem dX11_change_51 : decode cX11_change 51 = .ok (.ireturn, 1) := by decide +kernel
theorem dX11_change_52 : decode cX11_change 52 = .ok (.aload_n 0, 1) := by decide +kernel
theorem dX11_change_53 : decode cX11_change 53 = .ok (.invokevirtual 298, 3) := by decide +kernel
theorem dX11_change_56 : decode cX11_change 56 = .ok (.aload_n 0, 1) := by decide +kernel
theorem dX11_change_57 : decode cX11_change 57 = .ok (.iload_n 1, 1) := by decide +kernel
theorem dX11_change_58 : decode cX11_change 58 = .ok (.iload_n 2, 1) := by decide +kernel
theorem dX11_change_59 : decode cX11_change 59 = .ok (.invokevirtual 301, 3) := by decide +kernel
theorem dX11_change_62 : decode cX11_change 62 = .ok (.aload_n 0, 1) := by decide +kernel
theorem dX11_change_63 : decode cX11_change 63 = .ok (.iload_n 1, 1) := by decide +kernel
theorem dX11_change_64 : decode cX11_change 64 = .ok (.invokevirtual 79, 3) := by decide +kernel
theorem dX11_change_67 : decode cX11_change 67 = .ok (.ireturn, 1) := by decide +kernel
theorem dX11_diet_0 : decode cX11_diet 0 = .ok (.aload_n 0, 1) := by decide +kernel
theorem dX11_diet_1 : decode cX11_diet 1 = .ok (.iconst 0, 1) := by decide +kernel
theorem dX11_diet_2 : decode cX11_diet 2 = .ok (.putfield 3, 3) := by decide +kernel
theorem dX11_diet_5 : decode cX11_diet 5 = .ok (.aload_n 0, 1) := by decide +kernel
theorem dX11_diet_6 : decode cX11_diet 6 = .ok (.aload_n 0, 1) := by decide +kernel
theorem dX11_diet_7 : decode cX11_diet 7 = .ok (.iload_n 1, 1) := by decide +kernel
theorem dX11_diet_8 : decode cX11_diet 8 = .ok (.invokevirtual 274, 3) := by decide +kernel
theorem dX11_diet_11 : decode cX11_diet 11 = .ok (.iconst 1, 1) := by decide +kernel
theorem dX11_diet_12 : decode cX11_diet 12 = .ok (.invokevirtual 240, 3) := by decide +kernel
theorem dX11_diet_15 : decode cX11_diet 15 = .ok (.ifCond .eq 5, 3) := by decide +kernel
theorem dX11_diet_18 : decode cX11_diet 18 = .ok (.iconst 0, 1) := by decide +kernel
theorem dX11_diet_19 : decode cX11_diet 19 = .ok (.ireturn, 1) := by decide +kernel
theorem dX11_diet_20 : decode cX11_diet 20 = .ok (.aload_n 0, 1) := by decide +kernel
theorem dX11_diet_21 : decode cX11_diet 21 = .ok (.invokevirtual 298, 3) := by decide +kernel
theorem dX11_diet_24 : decode cX11_diet 24 = .ok (.aload_n 0, 1) := by decide +kernel
theorem dX11_diet_25 : decode cX11_diet 25 = .ok (.iload_n 1, 1) := by decide +kernel
theorem dX11_diet_26 : decode cX11_diet 26 = .ok (.invokevirtual 250, 3) := by decide +kernel
theorem dX11_diet_29 : decode cX11_diet 29 = .ok (.istore_n 3, 1) := by decide +kernel
theorem dX11_diet_30 : decode cX11_diet 30 = .ok (.aload_n 0, 1) := by decide +kernel
theorem dX11_diet_31 : decode cX11_diet 31 = .ok (.getfield 13, 3) := by decide +kernel
theorem dX11_diet_34 : decode cX11_diet 34 = .ok (.iload_n 1, 1) := by decide +kernel
theorem dX11_diet_35 : decode cX11_diet 35 = .ok (.iconst 2, 1) := by decide +kernel
theorem dX11_diet_36 : decode cX11_diet 36 = .ok (.invokestatic 55, 3) := by decide +kernel
theorem dX11_diet_39 : decode cX11_diet 39 = .ok (.iload_n 2, 1) := by decide +kernel
theorem dX11_diet_40 : decode cX11_diet 40 = .ok (.ifCond .eq 7, 3) := by decide +kernel
theorem dX11_diet_43 : decode cX11_diet 43 = .ok (.iconst 1, 1) := by decide +kernel
theorem dX11_diet_44 : decode cX11_diet 44 = .ok (.goto 4, 3) := by decide +kernel
theorem dX11_diet_47 : decode cX11_diet 47 = .ok (.iconst 0, 1) := by decide +kernel
theorem dX11_diet_48 : decode cX11_diet 48 = .ok (.iastore, 1) := by decide +kernel
theorem dX11_diet_49 : decode cX11_diet 49 = .ok (.iload_n 3, 1) := by decide +kernel
theorem dX11_diet_50 : decode cX11_diet 50 = .ok (.iload_n 2, 1) := by decide +kernel
theorem dX11_diet_51 : decode cX11_diet 51 = .ok (.if_icmp .eq 7, 3) := by decide +kernel
theorem dX11_diet_54 : decode cX11_diet 54 = .ok (.iconst 1, 1) := by decide +kernel
theorem dX11_diet_55 : decode cX11_diet 55 = .ok (.goto 4, 3) := by decide +kernel
theorem dX11_diet_58 : decode cX11_diet 58 = .ok (.iconst 0, 1) := by decide +kernel
theorem dX11_diet_59 : decode cX11_diet 59 = .ok (.ireturn, 1) := by decide +kernel
theorem dX11_sweet_0 : decode cX11_sweet 0 = .ok (.aload_n 0, 1) := by decide +kernel
theorem dX11_sweet_1 : decode cX11_sweet 1 = .ok (.iconst 0, 1) := by decide +kernel
theorem dX11_sweet_2 : decode cX11_sweet 2 = .ok (.putfield 3, 3) := by decide +kernel
theorem dX11_sweet_5 : decode cX11_sweet 5 = .ok (.aload_n 0, 1) := by decide +kernel
theorem dX11_sweet_6 : decode cX11_sweet 6 = .ok (.iload_n 1, 1) := by decide +kernel
theorem dX11_sweet_7 : decode cX11_sweet 7 = .ok (.iconst 0, 1) := by decide +kernel
theorem dX11_sweet_8 : decode cX11_sweet 8 = .ok (.bipush 11, 2) := by decide +kernel
theorem dX11_sweet_10 : decode cX11_sweet 10 = .ok (.invokestatic 72, 3) := by decide +kernel
theorem dX11_sweet_13 : decode cX11_sweet 13 = .ok (.ifCond .ne 7, 3) := by decide +kernel
theorem dX11_sweet_16 : decode cX11_sweet 16 = .ok (.iconst 1, 1) := by decide +kernel
theorem dX11_sweet_17 : decode cX11_sweet 17 = .ok (.goto 4, 3) := by decide +kernel
theorem dX11_sweet_20 : decode cX11_sweet 20 = .ok (.iconst 0, 1) := by decide +kernel
theorem dX11_sweet_21 : decode cX11_sweet 21 = .ok (.iconst 1, 1) := by decide +kernel
theorem dX11_sweet_22 : decode cX11_sweet 22 = .ok (.invokevirtual 240, 3) := by decide +kernel
theorem dX11_sweet_25 : decode cX11_sweet 25 = .ok (.ifCond .eq 5, 3) := by decide +kernel
theorem dX11_sweet_28 : decode cX11_sweet 28 = .ok (.iconst 0, 1) := by decide +kernel
theorem dX11_sweet_29 : decode cX11_sweet 29 = .ok (.ireturn, 1) := by decide +kernel
theorem dX11_sweet_30 : decode cX11_sweet 30 = .ok (.aload_n 0, 1) := by decide +kernel
theorem dX11_sweet_31 : decode cX11_sweet 31 = .ok (.invokevirtual 298, 3) := by decide +kernel
theorem dX11_sweet_34 : decode cX11_sweet 34 = .ok (.aload_n 0, 1) := by decide +kernel
theorem dX11_sweet_35 : decode cX11_sweet 35 = .ok (.getfield 13, 3) := by decide +kernel
theorem dX11_sweet_38 : decode cX11_sweet 38 = .ok (.bipush 6, 2) := by decide +kernel
theorem dX11_sweet_40 : decode cX11_sweet 40 = .ok (.iaload, 1) := by decide +kernel
theorem dX11_sweet_41 : decode cX11_sweet 41 = .ok (.iload_n 1, 1) := by decide +kernel
theorem dX11_sweet_42 : decode cX11_sweet 42 = .ok (.invokestatic 83, 3) := by decide +kernel
theorem dX11_sweet_45 : decode cX11_sweet 45 = .ok (.istore_n 3, 1) := by decide +kernel
theorem dX11_sweet_46 : decode cX11_sweet 46 = .ok (.aload_n 0, 1) := by decide +kernel
theorem dX11_sweet_47 : decode cX11_sweet 47 = .ok (.getfield 13, 3) := by decide +kernel
theorem dX11_sweet_50 : decode cX11_sweet 50 = .ok (.bipush 6, 2) := by decide +kernel
theorem dX11_sweet_52 : decode cX11_sweet 52 = .ok (.iload_n 2, 1) := by decide +kernel
theorem dX11_sweet_53 : decode cX11_sweet 53 = .ok (.ifCond .eq 17, 3) := by decide +kernel
theorem dX11_sweet_56 : decode cX11_sweet 56 = .ok (.aload_n 0, 1) := by decide +kernel
theorem dX11_sweet_57 : decode cX11_sweet 57 = .ok (.getfield 13, 3) := by decide +kernel
theorem dX11_sweet_60 : decode cX11_sweet 60 = .ok (.bipush 6, 2) := by decide +kernel
theorem dX11_sweet_62 : decode cX11_sweet 62 = .ok (.iaload, 1) := by decide +kernel
theorem dX11_sweet_63 : decode cX11_sweet 63 = .ok (.iconst 1, 1) := by decide +kernel
theorem dX11_sweet_64 : decode cX11_sweet 64 = .ok (.iload_n 1, 1) := by decide +kernel
theorem dX11_sweet_65 : decode cX11_sweet 65 = .ok (.ishl, 1) := by decide +kernel
theorem dX11_sweet_66 : decode cX11_sweet 66 = .ok (.ior, 1) := by decide +kernel
theorem dX11_sweet_67 : decode cX11_sweet 67 = .ok (.goto 16, 3) := by decide +kernel
theorem dX11_sweet_70 : decode cX11_sweet 70 = .ok (.aload_n 0, 1) := by decide +kernel
theorem dX11_sweet_71 : decode cX11_sweet 71 = .ok (.getfield 13, 3) := by decide +kernel
theorem dX11_sweet_74 : decode cX11_sweet 74 = .ok (.bipush 6, 2) := by decide +kernel
theorem dX11_sweet_76 : decode cX11_sweet 76 = .ok (.iaload, 1) := by decide +kernel
theorem dX11_sweet_77 : decode cX11_sweet 77 = .ok (.iconst 1, 1) := by decide +kernel
theorem dX11_sweet_78 : decode cX11_sweet 78 = .ok (.iload_n 1, 1) := by decide +kernel
theorem dX11_sweet_79 : decode cX11_sweet 79 = .ok (.ishl, 1) := by decide +kernel
theorem dX11_sweet_80 : decode cX11_sweet 80 = .ok (.iconst (-1), 1) := by decide +kernel
theorem dX11_sweet_81 : decode cX11_sweet 81 = .ok (.ixor, 1) := by decide +kernel
theorem dX11_sweet_82 : decode cX11_sweet 82 = .ok (.iand, 1) := by decide +kernel
theorem dX11_sweet_83 : decode cX11_sweet 83 = .ok (.iastore, 1) := by decide +kernel
theorem dX11_sweet_84 : decode cX11_sweet 84 = .ok (.iload_n 3, 1) := by decide +kernel
theorem dX11_sweet_85 : decode cX11_sweet 85 = .ok (.iload_n 2, 1) := by decide +kernel
theorem dX11_sweet_86 : decode cX11_sweet 86 = .ok (.if_icmp .eq 7, 3) := by decide +kernel
theorem dX11_sweet_89 : decode cX11_sweet 89 = .ok (.iconst 1, 1) := by decide +kernel
theorem dX11_sweet_90 : decode cX11_sweet 90 = .ok (.goto 4, 3) := by decide +kernel
theorem dX11_sweet_93 : decode cX11_sweet 93 = .ok (.iconst 0, 1) := by decide +kernel
theorem dX11_sweet_94 : decode cX11_sweet 94 = .ok (.ireturn, 1) := by decide +kernel
theorem dX11_tells_0 : decode cX11_tells 0 = .ok (.sipush 299, 3) := by decide +kernel
theorem dX11_tells_3 : decode cX11_tells 3 = .ok (.istore 4, 2) := by decide +kernel
theorem dX11_tells_5 : decode cX11_tells 5 = .ok (.iload 4, 2) := by decide +kernel
theorem dX11_tells_7 : decode cX11_tells 7 = .ok (.iconst 5, 1) := by decide +kernel
theorem dX11_tells_8 : decode cX11_tells 8 = .ok (.if_icmp .lt 31, 3) := by decide +kernel
theorem dX11_tells_11 : decode cX11_tells 11 = .ok (.aload_n 0, 1) := by decide +kernel
theorem dX11_tells_12 : decode cX11_tells 12 = .ok (.getfield 13, 3) := by decide +kernel
theorem dX11_tells_15 : decode cX11_tells 15 = .ok (.bipush 109, 2) := by decide +kernel
theorem dX11_tells_17 : decode cX11_tells 17 = .ok (.iload 4, 2) := by decide +kernel
theorem dX11_tells_19 : decode cX11_tells 19 = .ok (.iadd, 1) := by decide +kernel
theorem dX11_tells_20 : decode cX11_tells 20 = .ok (.aload_n 0, 1) := by decide +kernel
theorem dX11_tells_21 : decode cX11_tells 21 = .ok (.getfield 13, 3) := by decide +kernel
theorem dX11_tells_24 : decode cX11_tells 24 = .ok (.bipush 109, 2) := by decide +kernel
theorem dX11_tells_26 : decode cX11_tells 26 = .ok (.iload 4, 2) := by decide +kernel
theorem dX11_tells_28 : decode cX11_tells 28 = .ok (.iadd, 1) := by decide +kernel
theorem dX11_tells_29 : decode cX11_tells 29 = .ok (.iconst 5, 1) := by decide +kernel
theorem dX11_tells_30 : decode cX11_tells 30 = .ok (.isub, 1) := by decide +kernel
theorem dX11_tells_31 : decode cX11_tells 31 = .ok (.iaload, 1) := by decide +kernel
theorem dX11_tells_32 : decode cX11_tells 32 = .ok (.iastore, 1) := by decide +kernel
theorem dX11_tells_33 : decode cX11_tells 33 = .ok (.iinc 4 (-1), 3) := by decide +kernel
theorem dX11_tells_36 : decode cX11_tells 36 = .ok (.goto (-31), 3) := by decide +kernel
theorem dX11_tells_39 : decode cX11_tells 39 = .ok (.aload_n 0, 1) := by decide +kernel
theorem dX11_tells_40 : decode cX11_tells 40 = .ok (.getfield 13, 3) := by decide +kernel
theorem dX11_tells_43 : decode cX11_tells 43 = .ok (.bipush 109, 2) := by decide +kernel
theorem dX11_tells_45 : decode cX11_tells 45 = .ok (.aload_n 0, 1) := by decide +kernel
theorem dX11_tells_46 : decode cX11_tells 46 = .ok (.getfield 13, 3) := by decide +kernel
theorem dX11_tells_49 : decode cX11_tells 49 = .ok (.iconst 5, 1) := by decide +kernel
theorem dX11_tells_50 : decode cX11_tells 50 = .ok (.iaload, 1) := by decide +kernel
theorem dX11_tells_51 : decode cX11_tells 51 = .ok (.iastore, 1) := by decide +kernel
theorem dX11_tells_52 : decode cX11_tells 52 = .ok (.aload_n 0, 1) := by decide +kernel
theorem dX11_tells_53 : decode cX11_tells 53 = .ok (.getfield 13, 3) := by decide +kernel
theorem dX11_tells_56 : decode cX11_tells 56 = .ok (.bipush 110, 2) := by decide +kernel
theorem dX11_tells_58 : decode cX11_tells 58 = .ok (.aload_n 0, 1) := by decide +kernel
theorem dX11_tells_59 : decode cX11_tells 59 = .ok (.getfield 13, 3) := by decide +kernel
theorem dX11_tells_62 : decode cX11_tells 62 = .ok (.iconst 4, 1) := by decide +kernel
theorem dX11_tells_63 : decode cX11_tells 63 = .ok (.iaload, 1) := by decide +kernel
theorem dX11_tells_64 : decode cX11_tells 64 = .ok (.iastore, 1) := by decide +kernel
theorem dX11_tells_65 : decode cX11_tells 65 = .ok (.aload_n 0, 1) := by decide +kernel
theorem dX11_tells_66 : decode cX11_tells 66 = .ok (.getfield 13, 3) := by decide +kernel
theorem dX11_tells_69 : decode cX11_tells 69 = .ok (.bipush 111, 2) := by decide +kernel
theorem dX11_tells_71 : decode cX11_tells 71 = .ok (.iload_n 1, 1) := by decide +kernel
theorem dX11_tells_72 : decode cX11_tells 72 = .ok (.iastore, 1) := by decide +kernel
theorem dX11_tells_73 : decode cX11_tells 73 = .ok (.aload_n 0, 1) := by decide +kernel
theorem dX11_tells_74 : decode cX11_tells 74 = .ok (.getfield 13, 3) := by decide +kernel
theorem dX11_tells_77 : decode cX11_tells 77 = .ok (.bipush 112, 2) := by decide +kernel
theorem dX11_tells_79 : decode cX11_tells 79 = .ok (.iload_n 2, 1) := by decide +kernel
theorem dX11_tells_80 : decode cX11_tells 80 = .ok (.iastore, 1) := by decide +kernel
theorem dX11_tells_81 : decode cX11_tells 81 = .ok (.aload_n 0, 1) := by decide +kernel
theorem dX11_tells_82 : decode cX11_tells 82 = .ok (.getfield 13, 3) := by decide +kernel
theorem dX11_tells_85 : decode cX11_tells 85 = .ok (.bipush 113, 2) := by decide +kernel
theorem dX11_tells_87 : decode cX11_tells 87 = .ok (.iload_n 3, 1) := by decide +kernel
theorem dX11_tells_88 : decode cX11_tells 88 = .ok (.iastore, 1) := by decide +kernel
theorem dX11_tells_89 : decode cX11_tells 89 = .ok (.aload_n 0, 1) := by decide +kernel
theorem dX11_tells_90 : decode cX11_tells 90 = .ok (.getfield 13, 3) := by decide +kernel
theorem dX11_tells_93 : decode cX11_tells 93 = .ok (.bipush 10, 2) := by decide +kernel
theorem dX11_tells_95 : decode cX11_tells 95 = .ok (.bipush 60, 2) := by decide +kernel
theorem dX11_tells_97 : decode cX11_tells 97 = .ok (.aload_n 0, 1) := by decide +kernel
theorem dX11_tells_98 : decode cX11_tells 98 = .ok (.getfield 13, 3) := by decide +kernel
theorem dX11_tells_101 : decode cX11_tells 101 = .ok (.bipush 10, 2) := by decide +kernel
theorem dX11_tells_103 : decode cX11_tells 103 = .ok (.iaload, 1) := by decide +kernel
theorem dX11_tells_104 : decode cX11_tells 104 = .ok (.iconst 1, 1) := by decide +kernel
theorem dX11_tells_105 : decode cX11_tells 105 = .ok (.iadd, 1) := by decide +kernel
theorem dX11_tells_106 : decode cX11_tells 106 = .ok (.invokestatic 262, 3) := by decide +kernel
theorem dX11_tells_109 : decode cX11_tells 109 = .ok (.iastore, 1) := by decide +kernel
theorem dX11_tells_110 : decode cX11_tells 110 = .ok (.return_, 1) := by decide +kernel
theorem dX11_eats_0 : decode cX11_eats 0 = .ok (.aload_n 0, 1) := by decide +kernel
theorem dX11_eats_1 : decode cX11_eats 1 = .ok (.iload_n 1, 1) := by decide +kernel
theorem dX11_eats_2 : decode cX11_eats 2 = .ok (.invokevirtual 286, 3) := by decide +kernel
theorem dX11_eats_5 : decode cX11_eats 5 = .ok (.istore_n 2, 1) := by decide +kernel
theorem dX11_eats_6 : decode cX11_eats 6 = .ok (.iload_n 2, 1) := by decide +kernel
theorem dX11_eats_7 : decode cX11_eats 7 = .ok (.iconst (-1), 1) := by decide +kernel
theorem dX11_eats_8 : decode cX11_eats 8 = .ok (.if_icmp .ne 7, 3) := by decide +kernel
theorem dX11_eats_11 : decode cX11_eats 11 = .ok (.iconst 0, 1) := by decide +kernel
theorem dX11_eats_12 : decode cX11_eats 12 = .ok (.goto 9, 3) := by decide +kernel
theorem dX11_eats_15 : decode cX11_eats 15 = .ok (.aload_n 0, 1) := by decide +kernel
theorem dX11_eats_16 : decode cX11_eats 16 = .ok (.iload_n 1, 1) := by decide +kernel
theorem dX11_eats_17 : decode cX11_eats 17 = .ok (.iload_n 2, 1) := by decide +kernel
theorem dX11_eats_18 : decode cX11_eats 18 = .ok (.invokevirtual 289, 3) := by decide +kernel
theorem dX11_eats_21 : decode cX11_eats 21 = .ok (.istore_n 3, 1) := by decide +kernel
theorem dX11_eats_22 : decode cX11_eats 22 = .ok (.iload_n 2, 1) := by decide +kernel
theorem dX11_eats_23 : decode cX11_eats 23 = .ok (.iconst (-1), 1) := by decide +kernel
theorem dX11_eats_24 : decode cX11_eats 24 = .ok (.if_icmp .eq 22, 3) := by decide +kernel
theorem dX11_eats_27 : decode cX11_eats 27 = .ok (.aload_n 0, 1) := by decide +kernel
theorem dX11_eats_28 : decode cX11_eats 28 = .ok (.getfield 304, 3) := by decide +kernel
theorem dX11_eats_31 : decode cX11_eats 31 = .ok (.iload_n 2, 1) := by decide +kernel
theorem dX11_eats_32 : decode cX11_eats 32 = .ok (.invokestatic 83, 3) := by decide +kernel
theorem dX11_eats_35 : decode cX11_eats 35 = .ok (.ifCond .eq 11, 3) := by decide +kernel
theorem dX11_eats_38 : decode cX11_eats 38 = .ok (.iconst 0, 1) := by decide +kernel
theorem dX11_eats_39 : decode cX11_eats 39 = .ok (.iload_n 3, 1) := by decide +kernel
theorem dX11_eats_40 : decode cX11_eats 40 = .ok (.iconst 1, 1) := by decide +kernel
theorem dX11_eats_41 : decode cX11_eats 41 = .ok (.isub, 1) := by decide +kernel
theorem dX11_eats_42 : decode cX11_eats 42 = .ok (.invokestatic 253, 3) := by decide +kernel
theorem dX11_eats_45 : decode cX11_eats 45 = .ok (.istore_n 3, 1) := by decide +kernel
theorem dX11_eats_46 : decode cX11_eats 46 = .ok (.iload_n 3, 1) := by decide +kernel
theorem dX11_eats_47 : decode cX11_eats 47 = .ok (.ifCond .ne 5, 3) := by decide +kernel
theorem dX11_eats_50 : decode cX11_eats 50 = .ok (.iconst 0, 1) := by decide +kernel
theorem dX11_eats_51 : decode cX11_eats 51 = .ok (.ireturn, 1) := by decide +kernel
theorem dX11_eats_52 : decode cX11_eats 52 = .ok (.iload_n 2, 1) := by decide +kernel
theorem dX11_eats_53 : decode cX11_eats 53 = .ok (.iconst 3, 1) := by decide +kernel
theorem dX11_eats_54 : decode cX11_eats 54 = .ok (.aload_n 0, 1) := by decide +kernel
theorem dX11_eats_55 : decode cX11_eats 55 = .ok (.iload_n 1, 1) := by decide +kernel
theorem dX11_eats_56 : decode cX11_eats 56 = .ok (.iconst 1, 1) := by decide +kernel
theorem dX11_eats_57 : decode cX11_eats 57 = .ok (.invokevirtual 65, 3) := by decide +kernel
theorem dX11_eats_60 : decode cX11_eats 60 = .ok (.iadd, 1) := by decide +kernel
theorem dX11_eats_61 : decode cX11_eats 61 = .ok (.invokestatic 55, 3) := by decide +kernel
theorem dX11_eats_64 : decode cX11_eats 64 = .ok (.istore 4, 2) := by decide +kernel
theorem dX11_eats_66 : decode cX11_eats 66 = .ok (.aload_n 0, 1) := by decide +kernel
theorem dX11_eats_67 : decode cX11_eats 67 = .ok (.getfield 13, 3) := by decide +kernel
theorem dX11_eats_70 : decode cX11_eats 70 = .ok (.iload_n 1, 1) := by decide +kernel
theorem dX11_eats_71 : decode cX11_eats 71 = .ok (.iconst 2, 1) := by decide +kernel
theorem dX11_eats_72 : decode cX11_eats 72 = .ok (.invokestatic 62, 3) := by decide +kernel
theorem dX11_eats_75 : decode cX11_eats 75 = .ok (.dup2, 1) := by decide +kernel
theorem dX11_eats_76 : decode cX11_eats 76 = .ok (.iaload, 1) := by decide +kernel
theorem dX11_eats_77 : decode cX11_eats 77 = .ok (.iload_n 3, 1) := by decide +kernel
theorem dX11_eats_78 : decode cX11_eats 78 = .ok (.isub, 1) := by decide +kernel
theorem dX11_eats_79 : decode cX11_eats 79 = .ok (.iastore, 1) := by decide +kernel
theorem dX11_eats_80 : decode cX11_eats 80 = .ok (.aload_n 0, 1) := by decide +kernel
theorem dX11_eats_81 : decode cX11_eats 81 = .ok (.getfield 13, 3) := by decide +kernel
theorem dX11_eats_84 : decode cX11_eats 84 = .ok (.iload 4, 2) := by decide +kernel
theorem dX11_eats_86 : decode cX11_eats 86 = .ok (.sipush 999, 3) := by decide +kernel
theorem dX11_eats_89 : decode cX11_eats 89 = .ok (.aload_n 0, 1) := by decide +kernel
theorem dX11_eats_90 : decode cX11_eats 90 = .ok (.getfield 13, 3) := by decide +kernel
theorem dX11_eats_93 : decode cX11_eats 93 = .ok (.iload 4, 2) := by decide +kernel
theorem dX11_eats_95 : decode cX11_eats 95 = .ok (.iaload, 1) := by decide +kernel
theorem dX11_eats_96 : decode cX11_eats 96 = .ok (.iload_n 3, 1) := by decide +kernel
theorem dX11_eats_97 : decode cX11_eats 97 = .ok (.iadd, 1) := by decide +kernel
theorem dX11_eats_98 : decode cX11_eats 98 = .ok (.invokestatic 262, 3) := by decide +kernel
theorem dX11_eats_101 : decode cX11_eats 101 = .ok (.iastore, 1) := by decide +kernel
theorem dX11_eats_102 : decode cX11_eats 102 = .ok (.aload_n 0, 1) := by decide +kernel
theorem dX11_eats_103 : decode cX11_eats 103 = .ok (.iload_n 2, 1) := by decide +kernel
theorem dX11_eats_104 : decode cX11_eats 104 = .ok (.iload_n 1, 1) := by decide +kernel
theorem dX11_eats_105 : decode cX11_eats 105 = .ok (.iload_n 3, 1) := by decide +kernel
theorem dX11_eats_106 : decode cX11_eats 106 = .ok (.invokevirtual 307, 3) := by decide +kernel
theorem dX11_eats_109 : decode cX11_eats 109 = .ok (.iload_n 3, 1) := by decide +kernel
theorem dX11_eats_110 : decode cX11_eats 110 = .ok (.ireturn, 1) := by decide +kernel
theorem dX11_spills_0 : decode cX11_spills 0 = .ok (.aload_n 0, 1) := by decide +kernel
theorem dX11_spills_1 : decode cX11_spills 1 = .ok (.iload_n 1, 1) := by decide +kernel
theorem dX11_spills_2 : decode cX11_spills 2 = .ok (.invokevirtual 268, 3) := by decide +kernel
theorem dX11_spills_5 : decode cX11_spills 5 = .ok (.ifCond .ne 19, 3) := by decide +kernel
theorem dX11_spills_8 : decode cX11_spills 8 = .ok (.aload_n 0, 1) := by decide +kernel
theorem dX11_spills_9 : decode cX11_spills 9 = .ok (.bipush 100, 2) := by decide +kernel
theorem dX11_spills_11 : decode cX11_spills 11 = .ok (.invokevirtual 311, 3) := by decide +kernel
theorem dX11_spills_14 : decode cX11_spills 14 = .ok (.aload_n 0, 1) := by decide +kernel
theorem dX11_spills_15 : decode cX11_spills 15 = .ok (.getfield 13, 3) := by decide +kernel
theorem dX11_spills_18 : decode cX11_spills 18 = .ok (.bipush 7, 2) := by decide +kernel
theorem dX11_spills_20 : decode cX11_spills 20 = .ok (.iaload, 1) := by decide +kernel
theorem dX11_spills_21 : decode cX11_spills 21 = .ok (.if_icmp .lt 4, 3) := by decide +kernel
theorem dX11_spills_24 : decode cX11_spills 24 = .ok (.return_, 1) := by decide +kernel
theorem dX11_spills_25 : decode cX11_spills 25 = .ok (.aload_n 0, 1) := by decide +kernel
theorem dX11_spills_26 : decode cX11_spills 26 = .ok (.getfield 13, 3) := by decide +kernel
theorem dX11_spills_29 : decode cX11_spills 29 = .ok (.iload_n 1, 1) := by decide +kernel
theorem dX11_spills_30 : decode cX11_spills 30 = .ok (.iconst 2, 1) := by decide +kernel
theorem dX11_spills_31 : decode cX11_spills 31 = .ok (.invokestatic 62, 3) := by decide +kernel
theorem dX11_spills_34 : decode cX11_spills 34 = .ok (.dup2, 1) := by decide +kernel
theorem dX11_spills_35 : decode cX11_spills 35 = .ok (.iaload, 1) := by decide +kernel
theorem dX11_spills_36 : decode cX11_spills 36 = .ok (.iconst 1, 1) := by decide +kernel
theorem dX11_spills_37 : decode cX11_spills 37 = .ok (.isub, 1) := by decide +kernel
theorem dX11_spills_38 : decode cX11_spills 38 = .ok (.iastore, 1) := by decide +kernel
theorem dX11_spills_39 : decode cX11_spills 39 = .ok (.aload_n 0, 1) := by decide +kernel
theorem dX11_spills_40 : decode cX11_spills 40 = .ok (.getfield 13, 3) := by decide +kernel
theorem dX11_spills_43 : decode cX11_spills 43 = .ok (.bipush 9, 2) := by decide +kernel
theorem dX11_spills_45 : decode cX11_spills 45 = .ok (.sipush 9999, 3) := by decide +kernel
theorem dX11_spills_48 : decode cX11_spills 48 = .ok (.aload_n 0, 1) := by decide +kernel
theorem dX11_spills_49 : decode cX11_spills 49 = .ok (.getfield 13, 3) := by decide +kernel
theorem dX11_spills_52 : decode cX11_spills 52 = .ok (.bipush 9, 2) := by decide +kernel
theorem dX11_spills_54 : decode cX11_spills 54 = .ok (.iaload, 1) := by decide +kernel
theorem dX11_spills_55 : decode cX11_spills 55 = .ok (.iconst 1, 1) := by decide +kernel
theorem dX11_spills_56 : decode cX11_spills 56 = .ok (.iadd, 1) := by decide +kernel
theorem dX11_spills_57 : decode cX11_spills 57 = .ok (.invokestatic 262, 3) := by decide +kernel
theorem dX11_spills_60 : decode cX11_spills 60 = .ok (.iastore, 1) := by decide +kernel
theorem dX11_spills_61 : decode cX11_spills 61 = .ok (.return_, 1) := by decide +kernel
theorem dX11_dampens_0 : decode cX11_dampens 0 = .ok (.aload_n 0, 1) := by decide +kernel
theorem dX11_dampens_1 : decode cX11_dampens 1 = .ok (.iload_n 1, 1) := by decide +kernel
theorem dX11_dampens_2 : decode cX11_dampens 2 = .ok (.invokevirtual 268, 3) := by decide +kernel
theorem dX11_dampens_5 : decode cX11_dampens 5 = .ok (.ifCond .eq 4, 3) := by decide +kernel
theorem dX11_dampens_8 : decode cX11_dampens 8 = .ok (.return_, 1) := by decide +kernel
theorem dX11_dampens_9 : decode cX11_dampens 9 = .ok (.aload_n 0, 1) := by decide +kernel
theorem dX11_dampens_10 : decode cX11_dampens 10 = .ok (.iload_n 1, 1) := by decide +kernel
theorem dX11_dampens_11 : decode cX11_dampens 11 = .ok (.invokevirtual 286, 3) := by decide +kernel
theorem dX11_dampens_14 : decode cX11_dampens 14 = .ok (.istore_n 2, 1) := by decide +kernel
theorem dX11_dampens_15 : decode cX11_dampens 15 = .ok (.aload_n 0, 1) := by decide +kernel
theorem dX11_dampens_16 : decode cX11_dampens 16 = .ok (.getfield 13, 3) := by decide +kernel
theorem dX11_dampens_19 : decode cX11_dampens 19 = .ok (.iload_n 1, 1) := by decide +kernel
theorem dX11_dampens_20 : decode cX11_dampens 20 = .ok (.iconst 3, 1) := by decide +kernel
theorem dX11_dampens_21 : decode cX11_dampens 21 = .ok (.invokestatic 62, 3) := by decide +kernel
theorem dX11_dampens_24 : decode cX11_dampens 24 = .ok (.bipush 9, 2) := by decide +kernel
theorem dX11_dampens_26 : decode cX11_dampens 26 = .ok (.aload_n 0, 1) := by decide +kernel
theorem dX11_dampens_27 : decode cX11_dampens 27 = .ok (.iload_n 1, 1) := by decide +kernel
theorem dX11_dampens_28 : decode cX11_dampens 28 = .ok (.iconst 3, 1) := by decide +kernel
theorem dX11_dampens_29 : decode cX11_dampens 29 = .ok (.invokevirtual 65, 3) := by decide +kernel
theorem dX11_dampens_32 : decode cX11_dampens 32 = .ok (.iload_n 2, 1) := by decide +kernel
theorem dX11_dampens_33 : decode cX11_dampens 33 = .ok (.iconst (-1), 1) := by decide +kernel
theorem dX11_dampens_34 : decode cX11_dampens 34 = .ok (.if_icmp .ne 7, 3) := by decide +kernel
theorem dX11_dampens_37 : decode cX11_dampens 37 = .ok (.iconst 1, 1) := by decide +kernel
theorem dX11_dampens_38 : decode cX11_dampens 38 = .ok (.goto 9, 3) := by decide +kernel
theorem dX11_dampens_41 : decode cX11_dampens 41 = .ok (.aload_n 0, 1) := by decide +kernel
theorem dX11_dampens_42 : decode cX11_dampens 42 = .ok (.iload_n 1, 1) := by decide +kernel
theorem dX11_dampens_43 : decode cX11_dampens 43 = .ok (.iload_n 2, 1) := by decide +kernel
theorem dX11_dampens_44 : decode cX11_dampens 44 = .ok (.invokevirtual 292, 3) := by decide +kernel
theorem dX11_dampens_47 : decode cX11_dampens 47 = .ok (.iadd, 1) := by decide +kernel
theorem dX11_dampens_48 : decode cX11_dampens 48 = .ok (.invokestatic 262, 3) := by decide +kernel
theorem dX11_dampens_51 : decode cX11_dampens 51 = .ok (.iastore, 1) := by decide +kernel
theorem dX11_dampens_52 : decode cX11_dampens 52 = .ok (.return_, 1) := by decide +kernel
theorem dX11_oneCourse_0 : decode cX11_oneCourse 0 = .ok (.iconst 0, 1) := by decide +kernel
theorem dX11_oneCourse_1 : decode cX11_oneCourse 1 = .ok (.istore_n 2, 1) := by decide +kernel
theorem dX11_oneCourse_2 : decode cX11_oneCourse 2 = .ok (.iconst 0, 1) := by decide +kernel
theorem dX11_oneCourse_3 : decode cX11_oneCourse 3 = .ok (.istore_n 3, 1) := by decide +kernel
theorem dX11_oneCourse_4 : decode cX11_oneCourse 4 = .ok (.iload_n 3, 1) := by decide +kernel
theorem dX11_oneCourse_5 : decode cX11_oneCourse 5 = .ok (.aload_n 0, 1) := by decide +kernel
theorem dX11_oneCourse_6 : decode cX11_oneCourse 6 = .ok (.invokevirtual 76, 3) := by decide +kernel
theorem dX11_oneCourse_9 : decode cX11_oneCourse 9 = .ok (.if_icmp .ge 17, 3) := by decide +kernel
theorem dX11_oneCourse_12 : decode cX11_oneCourse 12 = .ok (.iload_n 2, 1) := by decide +kernel
theorem dX11_oneCourse_13 : decode cX11_oneCourse 13 = .ok (.aload_n 0, 1) := by decide +kernel
theorem dX11_oneCourse_14 : decode cX11_oneCourse 14 = .ok (.iload_n 3, 1) := by decide +kernel
theorem dX11_oneCourse_15 : decode cX11_oneCourse 15 = .ok (.invokevirtual 314, 3) := by decide +kernel
theorem dX11_oneCourse_18 : decode cX11_oneCourse 18 = .ok (.iadd, 1) := by decide +kernel
theorem dX11_oneCourse_19 : decode cX11_oneCourse 19 = .ok (.istore_n 2, 1) := by decide +kernel
theorem dX11_oneCourse_20 : decode cX11_oneCourse 20 = .ok (.iinc 3 1, 3) := by decide +kernel
theorem dX11_oneCourse_23 : decode cX11_oneCourse 23 = .ok (.goto (-19), 3) := by decide +kernel
theorem dX11_oneCourse_26 : decode cX11_oneCourse 26 = .ok (.iconst 0, 1) := by decide +kernel
theorem dX11_oneCourse_27 : decode cX11_oneCourse 27 = .ok (.istore_n 3, 1) := by decide +kernel
theorem dX11_oneCourse_28 : decode cX11_oneCourse 28 = .ok (.iload_n 3, 1) := by decide +kernel
theorem dX11_oneCourse_29 : decode cX11_oneCourse 29 = .ok (.aload_n 0, 1) := by decide +kernel
theorem dX11_oneCourse_30 : decode cX11_oneCourse 30 = .ok (.invokevirtual 76, 3) := by decide +kernel
theorem dX11_oneCourse_33 : decode cX11_oneCourse 33 = .ok (.if_icmp .ge 18, 3) := by decide +kernel
theorem dX11_oneCourse_36 : decode cX11_oneCourse 36 = .ok (.iload_n 1, 1) := by decide +kernel
theorem dX11_oneCourse_37 : decode cX11_oneCourse 37 = .ok (.ifCond .ne 14, 3) := by decide +kernel
theorem dX11_oneCourse_40 : decode cX11_oneCourse 40 = .ok (.aload_n 0, 1) := by decide +kernel
theorem dX11_oneCourse_41 : decode cX11_oneCourse 41 = .ok (.iload_n 3, 1) := by decide +kernel
theorem dX11_oneCourse_42 : decode cX11_oneCourse 42 = .ok (.invokevirtual 317, 3) := by decide +kernel
theorem dX11_oneCourse_45 : decode cX11_oneCourse 45 = .ok (.iinc 3 1, 3) := by decide +kernel
theorem dX11_oneCourse_48 : decode cX11_oneCourse 48 = .ok (.goto (-20), 3) := by decide +kernel
theorem dX11_oneCourse_51 : decode cX11_oneCourse 51 = .ok (.iload_n 1, 1) := by decide +kernel
theorem dX11_oneCourse_52 : decode cX11_oneCourse 52 = .ok (.ifCond .ne 23, 3) := by decide +kernel
theorem dX11_oneCourse_55 : decode cX11_oneCourse 55 = .ok (.aload_n 0, 1) := by decide +kernel
theorem dX11_oneCourse_56 : decode cX11_oneCourse 56 = .ok (.bipush 100, 2) := by decide +kernel
theorem dX11_oneCourse_58 : decode cX11_oneCourse 58 = .ok (.invokevirtual 311, 3) := by decide +kernel
theorem dX11_oneCourse_61 : decode cX11_oneCourse 61 = .ok (.aload_n 0, 1) := by decide +kernel
theorem dX11_oneCourse_62 : decode cX11_oneCourse 62 = .ok (.getfield 13, 3) := by decide +kernel
theorem dX11_oneCourse_65 : decode cX11_oneCourse 65 = .ok (.bipush 8, 2) := by decide +kernel
theorem dX11_oneCourse_67 : decode cX11_oneCourse 67 = .ok (.iaload, 1) := by decide +kernel
theorem dX11_oneCourse_68 : decode cX11_oneCourse 68 = .ok (.if_icmp .ge 7, 3) := by decide +kernel
theorem dX11_oneCourse_71 : decode cX11_oneCourse 71 = .ok (.iconst 1, 1) := by decide +kernel
theorem dX11_oneCourse_72 : decode cX11_oneCourse 72 = .ok (.goto 4, 3) := by decide +kernel
theorem dX11_oneCourse_75 : decode cX11_oneCourse 75 = .ok (.iconst 0, 1) := by decide +kernel
theorem dX11_oneCourse_76 : decode cX11_oneCourse 76 = .ok (.istore_n 3, 1) := by decide +kernel
theorem dX11_oneCourse_77 : decode cX11_oneCourse 77 = .ok (.iconst 0, 1) := by decide +kernel
theorem dX11_oneCourse_78 : decode cX11_oneCourse 78 = .ok (.istore 4, 2) := by decide +kernel
theorem dX11_oneCourse_80 : decode cX11_oneCourse 80 = .ok (.iload 4, 2) := by decide +kernel
theorem dX11_oneCourse_82 : decode cX11_oneCourse 82 = .ok (.aload_n 0, 1) := by decide +kernel
theorem dX11_oneCourse_83 : decode cX11_oneCourse 83 = .ok (.invokevirtual 76, 3) := by decide +kernel
theorem dX11_oneCourse_86 : decode cX11_oneCourse 86 = .ok (.if_icmp .ge 19, 3) := by decide +kernel
theorem dX11_oneCourse_89 : decode cX11_oneCourse 89 = .ok (.iload_n 3, 1) := by decide +kernel
theorem dX11_oneCourse_90 : decode cX11_oneCourse 90 = .ok (.ifCond .eq 15, 3) := by decide +kernel
theorem dX11_oneCourse_93 : decode cX11_oneCourse 93 = .ok (.aload_n 0, 1) := by decide +kernel
theorem dX11_oneCourse_94 : decode cX11_oneCourse 94 = .ok (.iload 4, 2) := by decide +kernel
theorem dX11_oneCourse_96 : decode cX11_oneCourse 96 = .ok (.invokevirtual 321, 3) := by decide +kernel
theorem dX11_oneCourse_99 : decode cX11_oneCourse 99 = .ok (.iinc 4 1, 3) := by decide +kernel
theorem dX11_oneCourse_102 : decode cX11_oneCourse 102 = .ok (.goto (-22), 3) := by decide +kernel
theorem dX11_oneCourse_105 : decode cX11_oneCourse 105 = .ok (.aload_n 0, 1) := by decide +kernel
theorem dX11_oneCourse_106 : decode cX11_oneCourse 106 = .ok (.invokevirtual 324, 3) := by decide +kernel
theorem dX11_oneCourse_109 : decode cX11_oneCourse 109 = .ok (.iload_n 2, 1) := by decide +kernel
theorem dX11_oneCourse_110 : decode cX11_oneCourse 110 = .ok (.ireturn, 1) := by decide +kernel
theorem dX11_keepsAll_0 : decode cX11_keepsAll 0 = .ok (.iconst 0, 1) := by decide +kernel
theorem dX11_keepsAll_1 : decode cX11_keepsAll 1 = .ok (.istore_n 1, 1) := by decide +kernel
theorem dX11_keepsAll_2 : decode cX11_keepsAll 2 = .ok (.iload_n 1, 1) := by decide +kernel
theorem dX11_keepsAll_3 : decode cX11_keepsAll 3 = .ok (.sipush 409, 3) := by decide +kernel
theorem dX11_keepsAll_6 : decode cX11_keepsAll 6 = .ok (.if_icmp .ge 21, 3) := by decide +kernel
theorem dX11_keepsAll_9 : decode cX11_keepsAll 9 = .ok (.aload_n 0, 1) := by decide +kernel
theorem dX11_keepsAll_10 : decode cX11_keepsAll 10 = .ok (.getfield 23, 3) := by decide +kernel
theorem dX11_keepsAll_13 : decode cX11_keepsAll 13 = .ok (.iload_n 1, 1) := by decide +kernel
theorem dX11_keepsAll_14 : decode cX11_keepsAll 14 = .ok (.aload_n 0, 1) := by decide +kernel
theorem dX11_keepsAll_15 : decode cX11_keepsAll 15 = .ok (.getfield 13, 3) := by decide +kernel
theorem dX11_keepsAll_18 : decode cX11_keepsAll 18 = .ok (.iload_n 1, 1) := by decide +kernel
theorem dX11_keepsAll_19 : decode cX11_keepsAll 19 = .ok (.iaload, 1) := by decide +kernel
theorem dX11_keepsAll_20 : decode cX11_keepsAll 20 = .ok (.iastore, 1) := by decide +kernel
theorem dX11_keepsAll_21 : decode cX11_keepsAll 21 = .ok (.iinc 1 1, 3) := by decide +kernel
theorem dX11_keepsAll_24 : decode cX11_keepsAll 24 = .ok (.goto (-22), 3) := by decide +kernel
theorem dX11_keepsAll_27 : decode cX11_keepsAll 27 = .ok (.return_, 1) := by decide +kernel
theorem dX11_bringsBack_0 : decode cX11_bringsBack 0 = .ok (.iconst 0, 1) := by decide +kernel
theorem dX11_bringsBack_1 : decode cX11_bringsBack 1 = .ok (.istore_n 1, 1) := by decide +kernel
theorem dX11_bringsBack_2 : decode cX11_bringsBack 2 = .ok (.iload_n 1, 1) := by decide +kernel
theorem dX11_bringsBack_3 : decode cX11_bringsBack 3 = .ok (.sipush 409, 3) := by decide +kernel
theorem dX11_bringsBack_6 : decode cX11_bringsBack 6 = .ok (.if_icmp .ge 21, 3) := by decide +kernel
theorem dX11_bringsBack_9 : decode cX11_bringsBack 9 = .ok (.aload_n 0, 1) := by decide +kernel
theorem dX11_bringsBack_10 : decode cX11_bringsBack 10 = .ok (.getfield 13, 3) := by decide +kernel
theorem dX11_bringsBack_13 : decode cX11_bringsBack 13 = .ok (.iload_n 1, 1) := by decide +kernel
theorem dX11_bringsBack_14 : decode cX11_bringsBack 14 = .ok (.aload_n 0, 1) := by decide +kernel
theorem dX11_bringsBack_15 : decode cX11_bringsBack 15 = .ok (.getfield 23, 3) := by decide +kernel
theorem dX11_bringsBack_18 : decode cX11_bringsBack 18 = .ok (.iload_n 1, 1) := by decide +kernel
theorem dX11_bringsBack_19 : decode cX11_bringsBack 19 = .ok (.iaload, 1) := by decide +kernel
theorem dX11_bringsBack_20 : decode cX11_bringsBack 20 = .ok (.iastore, 1) := by decide +kernel
theorem dX11_bringsBack_21 : decode cX11_bringsBack 21 = .ok (.iinc 1 1, 3) := by decide +kernel
theorem dX11_bringsBack_24 : decode cX11_bringsBack 24 = .ok (.goto (-22), 3) := by decide +kernel
theorem dX11_bringsBack_27 : decode cX11_bringsBack 27 = .ok (.return_, 1) := by decide +kernel
theorem dX11_goesOn_0 : decode cX11_goesOn 0 = .ok (.iconst 0, 1) := by decide +kernel
theorem dX11_goesOn_1 : decode cX11_goesOn 1 = .ok (.istore_n 3, 1) := by decide +kernel
theorem dX11_goesOn_2 : decode cX11_goesOn 2 = .ok (.iconst 0, 1) := by decide +kernel
theorem dX11_goesOn_3 : decode cX11_goesOn 3 = .ok (.istore 4, 2) := by decide +kernel
theorem dX11_goesOn_5 : decode cX11_goesOn 5 = .ok (.iload 4, 2) := by decide +kernel
theorem dX11_goesOn_7 : decode cX11_goesOn 7 = .ok (.iload_n 1, 1) := by decide +kernel
theorem dX11_goesOn_8 : decode cX11_goesOn 8 = .ok (.if_icmp .ge 17, 3) := by decide +kernel
theorem dX11_goesOn_11 : decode cX11_goesOn 11 = .ok (.iload_n 3, 1) := by decide +kernel
theorem dX11_goesOn_12 : decode cX11_goesOn 12 = .ok (.aload_n 0, 1) := by decide +kernel
theorem dX11_goesOn_13 : decode cX11_goesOn 13 = .ok (.iload_n 2, 1) := by decide +kernel
theorem dX11_goesOn_14 : decode cX11_goesOn 14 = .ok (.invokevirtual 327, 3) := by decide +kernel
theorem dX11_goesOn_17 : decode cX11_goesOn 17 = .ok (.iadd, 1) := by decide +kernel
theorem dX11_goesOn_18 : decode cX11_goesOn 18 = .ok (.istore_n 3, 1) := by decide +kernel
theorem dX11_goesOn_19 : decode cX11_goesOn 19 = .ok (.iinc 4 1, 3) := by decide +kernel
theorem dX11_goesOn_22 : decode cX11_goesOn 22 = .ok (.goto (-17), 3) := by decide +kernel
theorem dX11_goesOn_25 : decode cX11_goesOn 25 = .ok (.iload_n 3, 1) := by decide +kernel
theorem dX11_goesOn_26 : decode cX11_goesOn 26 = .ok (.ireturn, 1) := by decide +kernel
theorem dX11_courses_0 : decode cX11_courses 0 = .ok (.aload_n 0, 1) := by decide +kernel
theorem dX11_courses_1 : decode cX11_courses 1 = .ok (.iconst 0, 1) := by decide +kernel
theorem dX11_courses_2 : decode cX11_courses 2 = .ok (.putfield 3, 3) := by decide +kernel
theorem dX11_courses_5 : decode cX11_courses 5 = .ok (.aload_n 0, 1) := by decide +kernel
theorem dX11_courses_6 : decode cX11_courses 6 = .ok (.iload_n 1, 1) := by decide +kernel
theorem dX11_courses_7 : decode cX11_courses 7 = .ok (.iconst 1, 1) := by decide +kernel
theorem dX11_courses_8 : decode cX11_courses 8 = .ok (.bipush 100, 2) := by decide +kernel
theorem dX11_courses_10 : decode cX11_courses 10 = .ok (.invokestatic 72, 3) := by decide +kernel
theorem dX11_courses_13 : decode cX11_courses 13 = .ok (.ifCond .ne 7, 3) := by decide +kernel
theorem dX11_courses_16 : decode cX11_courses 16 = .ok (.iconst 1, 1) := by decide +kernel
theorem dX11_courses_17 : decode cX11_courses 17 = .ok (.goto 4, 3) := by decide +kernel
theorem dX11_courses_20 : decode cX11_courses 20 = .ok (.iconst 0, 1) := by decide +kernel
theorem dX11_courses_21 : decode cX11_courses 21 = .ok (.iconst 1, 1) := by decide +kernel
theorem dX11_courses_22 : decode cX11_courses 22 = .ok (.invokevirtual 240, 3) := by decide +kernel
theorem dX11_courses_25 : decode cX11_courses 25 = .ok (.ifCond .eq 5, 3) := by decide +kernel
theorem dX11_courses_28 : decode cX11_courses 28 = .ok (.iconst 0, 1) := by decide +kernel
theorem dX11_courses_29 : decode cX11_courses 29 = .ok (.ireturn, 1) := by decide +kernel
theorem dX11_courses_30 : decode cX11_courses 30 = .ok (.aload_n 0, 1) := by decide +kernel
theorem dX11_courses_31 : decode cX11_courses 31 = .ok (.invokevirtual 298, 3) := by decide +kernel
theorem dX11_courses_34 : decode cX11_courses 34 = .ok (.aload_n 0, 1) := by decide +kernel
theorem dX11_courses_35 : decode cX11_courses 35 = .ok (.iload_n 1, 1) := by decide +kernel
theorem dX11_courses_36 : decode cX11_courses 36 = .ok (.iconst 0, 1) := by decide +kernel
theorem dX11_courses_37 : decode cX11_courses 37 = .ok (.invokevirtual 330, 3) := by decide +kernel
theorem dX11_courses_40 : decode cX11_courses 40 = .ok (.ireturn, 1) := by decide +kernel
theorem dX11_heldOnes_0 : decode cX11_heldOnes 0 = .ok (.iconst 0, 1) := by decide +kernel
theorem dX11_heldOnes_1 : decode cX11_heldOnes 1 = .ok (.istore_n 1, 1) := by decide +kernel
theorem dX11_heldOnes_2 : decode cX11_heldOnes 2 = .ok (.iconst 0, 1) := by decide +kernel
theorem dX11_heldOnes_3 : decode cX11_heldOnes 3 = .ok (.istore_n 2, 1) := by decide +kernel
theorem dX11_heldOnes_4 : decode cX11_heldOnes 4 = .ok (.iload_n 2, 1) := by decide +kernel
theorem dX11_heldOnes_5 : decode cX11_heldOnes 5 = .ok (.aload_n 0, 1) := by decide +kernel
theorem dX11_heldOnes_6 : decode cX11_heldOnes 6 = .ok (.invokevirtual 76, 3) := by decide +kernel
theorem dX11_heldOnes_9 : decode cX11_heldOnes 9 = .ok (.if_icmp .ge 27, 3) := by decide +kernel
theorem dX11_heldOnes_12 : decode cX11_heldOnes 12 = .ok (.iload_n 1, 1) := by decide +kernel
theorem dX11_heldOnes_13 : decode cX11_heldOnes 13 = .ok (.aload_n 0, 1) := by decide +kernel
theorem dX11_heldOnes_14 : decode cX11_heldOnes 14 = .ok (.iload_n 2, 1) := by decide +kernel
theorem dX11_heldOnes_15 : decode cX11_heldOnes 15 = .ok (.invokevirtual 268, 3) := by decide +kernel
theorem dX11_heldOnes_18 : decode cX11_heldOnes 18 = .ok (.ifCond .eq 7, 3) := by decide +kernel
theorem dX11_heldOnes_21 : decode cX11_heldOnes 21 = .ok (.iconst 0, 1) := by decide +kernel
theorem dX11_heldOnes_22 : decode cX11_heldOnes 22 = .ok (.goto 6, 3) := by decide +kernel
theorem dX11_heldOnes_25 : decode cX11_heldOnes 25 = .ok (.iconst 1, 1) := by decide +kernel
theorem dX11_heldOnes_26 : decode cX11_heldOnes 26 = .ok (.iload_n 2, 1) := by decide +kernel
theorem dX11_heldOnes_27 : decode cX11_heldOnes 27 = .ok (.ishl, 1) := by decide +kernel
theorem dX11_heldOnes_28 : decode cX11_heldOnes 28 = .ok (.ior, 1) := by decide +kernel
theorem dX11_heldOnes_29 : decode cX11_heldOnes 29 = .ok (.istore_n 1, 1) := by decide +kernel
theorem dX11_heldOnes_30 : decode cX11_heldOnes 30 = .ok (.iinc 2 1, 3) := by decide +kernel
theorem dX11_heldOnes_33 : decode cX11_heldOnes 33 = .ok (.goto (-29), 3) := by decide +kernel
theorem dX11_heldOnes_36 : decode cX11_heldOnes 36 = .ok (.iload_n 1, 1) := by decide +kernel
theorem dX11_heldOnes_37 : decode cX11_heldOnes 37 = .ok (.ireturn, 1) := by decide +kernel
theorem dX11_freedIn_0 : decode cX11_freedIn 0 = .ok (.ldc_w 334, 3) := by decide +kernel
theorem dX11_freedIn_3 : decode cX11_freedIn 3 = .ok (.istore_n 2, 1) := by decide +kernel
theorem dX11_freedIn_4 : decode cX11_freedIn 4 = .ok (.aload_n 0, 1) := by decide +kernel
theorem dX11_freedIn_5 : decode cX11_freedIn 5 = .ok (.invokevirtual 335, 3) := by decide +kernel
theorem dX11_freedIn_8 : decode cX11_freedIn 8 = .ok (.iconst 0, 1) := by decide +kernel
theorem dX11_freedIn_9 : decode cX11_freedIn 9 = .ok (.istore_n 3, 1) := by decide +kernel
theorem dX11_freedIn_10 : decode cX11_freedIn 10 = .ok (.iload_n 3, 1) := by decide +kernel
theorem dX11_freedIn_11 : decode cX11_freedIn 11 = .ok (.sipush 200, 3) := by decide +kernel
theorem dX11_freedIn_14 : decode cX11_freedIn 14 = .ok (.if_icmp .gt 39, 3) := by decide +kernel
theorem dX11_freedIn_17 : decode cX11_freedIn 17 = .ok (.iload_n 2, 1) := by decide +kernel
theorem dX11_freedIn_18 : decode cX11_freedIn 18 = .ok (.ldc_w 334, 3) := by decide +kernel
theorem dX11_freedIn_21 : decode cX11_freedIn 21 = .ok (.if_icmp .ne 32, 3) := by decide +kernel
theorem dX11_freedIn_24 : decode cX11_freedIn 24 = .ok (.aload_n 0, 1) := by decide +kernel
theorem dX11_freedIn_25 : decode cX11_freedIn 25 = .ok (.invokevirtual 338, 3) := by decide +kernel
theorem dX11_freedIn_28 : decode cX11_freedIn 28 = .ok (.iload_n 1, 1) := by decide +kernel
theorem dX11_freedIn_29 : decode cX11_freedIn 29 = .ok (.iand, 1) := by decide +kernel
theorem dX11_freedIn_30 : decode cX11_freedIn 30 = .ok (.ifCond .ne 7, 3) := by decide +kernel
theorem dX11_freedIn_33 : decode cX11_freedIn 33 = .ok (.iload_n 3, 1) := by decide +kernel
theorem dX11_freedIn_34 : decode cX11_freedIn 34 = .ok (.goto 6, 3) := by decide +kernel
theorem dX11_freedIn_37 : decode cX11_freedIn 37 = .ok (.ldc_w 334, 3) := by decide +kernel
theorem dX11_freedIn_40 : decode cX11_freedIn 40 = .ok (.istore_n 2, 1) := by decide +kernel
theorem dX11_freedIn_41 : decode cX11_freedIn 41 = .ok (.aload_n 0, 1) := by decide +kernel
theorem dX11_freedIn_42 : decode cX11_freedIn 42 = .ok (.iconst 1, 1) := by decide +kernel
theorem dX11_freedIn_43 : decode cX11_freedIn 43 = .ok (.invokevirtual 327, 3) := by decide +kernel
theorem dX11_freedIn_46 : decode cX11_freedIn 46 = .ok (.pop, 1) := by decide +kernel
theorem dX11_freedIn_47 : decode cX11_freedIn 47 = .ok (.iinc 3 1, 3) := by decide +kernel
theorem dX11_freedIn_50 : decode cX11_freedIn 50 = .ok (.goto (-40), 3) := by decide +kernel
theorem dX11_freedIn_53 : decode cX11_freedIn 53 = .ok (.aload_n 0, 1) := by decide +kernel
theorem dX11_freedIn_54 : decode cX11_freedIn 54 = .ok (.invokevirtual 341, 3) := by decide +kernel
theorem dX11_freedIn_57 : decode cX11_freedIn 57 = .ok (.iload_n 2, 1) := by decide +kernel
theorem dX11_freedIn_58 : decode cX11_freedIn 58 = .ok (.ireturn, 1) := by decide +kernel
theorem dX11_orNone_0 : decode cX11_orNone 0 = .ok (.iload_n 0, 1) := by decide +kernel
theorem dX11_orNone_1 : decode cX11_orNone 1 = .ok (.ldc_w 334, 3) := by decide +kernel
theorem dX11_orNone_4 : decode cX11_orNone 4 = .ok (.if_icmp .lt 7, 3) := by decide +kernel
theorem dX11_orNone_7 : decode cX11_orNone 7 = .ok (.iconst (-1), 1) := by decide +kernel
theorem dX11_orNone_8 : decode cX11_orNone 8 = .ok (.goto 4, 3) := by decide +kernel
theorem dX11_orNone_11 : decode cX11_orNone 11 = .ok (.iload_n 0, 1) := by decide +kernel
theorem dX11_orNone_12 : decode cX11_orNone 12 = .ok (.ireturn, 1) := by decide +kernel
theorem dX11_frees_0 : decode cX11_frees 0 = .ok (.aload_n 0, 1) := by decide +kernel
theorem dX11_frees_1 : decode cX11_frees 1 = .ok (.iconst 0, 1) := by decide +kernel
theorem dX11_frees_2 : decode cX11_frees 2 = .ok (.putfield 3, 3) := by decide +kernel
theorem dX11_frees_5 : decode cX11_frees 5 = .ok (.aload_n 0, 1) := by decide +kernel
theorem dX11_frees_6 : decode cX11_frees 6 = .ok (.aload_n 0, 1) := by decide +kernel
theorem dX11_frees_7 : decode cX11_frees 7 = .ok (.iload_n 1, 1) := by decide +kernel
theorem dX11_frees_8 : decode cX11_frees 8 = .ok (.invokevirtual 283, 3) := by decide +kernel
theorem dX11_frees_11 : decode cX11_frees 11 = .ok (.iconst 1, 1) := by decide +kernel
theorem dX11_frees_12 : decode cX11_frees 12 = .ok (.invokevirtual 240, 3) := by decide +kernel
theorem dX11_frees_15 : decode cX11_frees 15 = .ok (.ifCond .eq 7, 3) := by decide +kernel
theorem dX11_frees_18 : decode cX11_frees 18 = .ok (.iconst 0, 1) := by decide +kernel
theorem dX11_frees_19 : decode cX11_frees 19 = .ok (.goto 13, 3) := by decide +kernel
theorem dX11_frees_22 : decode cX11_frees 22 = .ok (.aload_n 0, 1) := by decide +kernel
theorem dX11_frees_23 : decode cX11_frees 23 = .ok (.iconst 1, 1) := by decide +kernel
theorem dX11_frees_24 : decode cX11_frees 24 = .ok (.iload_n 1, 1) := by decide +kernel
theorem dX11_frees_25 : decode cX11_frees 25 = .ok (.ishl, 1) := by decide +kernel
theorem dX11_frees_26 : decode cX11_frees 26 = .ok (.invokevirtual 344, 3) := by decide +kernel
theorem dX11_frees_29 : decode cX11_frees 29 = .ok (.invokestatic 347, 3) := by decide +kernel
theorem dX11_frees_32 : decode cX11_frees 32 = .ok (.ireturn, 1) := by decide +kernel
theorem dX11_all_0 : decode cX11_all 0 = .ok (.aload_n 0, 1) := by decide +kernel
theorem dX11_all_1 : decode cX11_all 1 = .ok (.iconst 0, 1) := by decide +kernel
theorem dX11_all_2 : decode cX11_all 2 = .ok (.putfield 3, 3) := by decide +kernel
theorem dX11_all_5 : decode cX11_all 5 = .ok (.aload_n 0, 1) := by decide +kernel
theorem dX11_all_6 : decode cX11_all 6 = .ok (.bipush 31, 2) := by decide +kernel
theorem dX11_all_8 : decode cX11_all 8 = .ok (.invokevirtual 344, 3) := by decide +kernel
theorem dX11_all_11 : decode cX11_all 11 = .ok (.invokestatic 347, 3) := by decide +kernel
theorem dX11_all_14 : decode cX11_all 14 = .ok (.ireturn, 1) := by decide +kernel
theorem dX11_held_0 : decode cX11_held 0 = .ok (.aload_n 0, 1) := by decide +kernel
theorem dX11_held_1 : decode cX11_held 1 = .ok (.iconst 0, 1) := by decide +kernel
theorem dX11_held_2 : decode cX11_held 2 = .ok (.putfield 3, 3) := by decide +kernel
theorem dX11_held_5 : decode cX11_held 5 = .ok (.aload_n 0, 1) := by decide +kernel
theorem dX11_held_6 : decode cX11_held 6 = .ok (.invokevirtual 338, 3) := by decide +kernel
theorem dX11_held_9 : decode cX11_held 9 = .ok (.ireturn, 1) := by decide +kernel
theorem dX11_noAhead_0 : decode cX11_noAhead 0 = .ok (.iload_n 0, 1) := by decide +kernel
theorem dX11_noAhead_1 : decode cX11_noAhead 1 = .ok (.iconst 0, 1) := by decide +kernel
theorem dX11_noAhead_2 : decode cX11_noAhead 2 = .ok (.sipush 200, 3) := by decide +kernel
theorem dX11_noAhead_5 : decode cX11_noAhead 5 = .ok (.invokestatic 72, 3) := by decide +kernel
theorem dX11_noAhead_8 : decode cX11_noAhead 8 = .ok (.ifCond .ne 7, 3) := by decide +kernel
theorem dX11_noAhead_11 : decode cX11_noAhead 11 = .ok (.iconst 1, 1) := by decide +kernel
theorem dX11_noAhead_12 : decode cX11_noAhead 12 = .ok (.goto 4, 3) := by decide +kernel
theorem dX11_noAhead_15 : decode cX11_noAhead 15 = .ok (.iconst 0, 1) := by decide +kernel
theorem dX11_noAhead_16 : decode cX11_noAhead 16 = .ok (.ireturn, 1) := by decide +kernel
theorem dX11_laysTakes_0 : decode cX11_laysTakes 0 = .ok (.aload_n 0, 1) := by decide +kernel
theorem dX11_laysTakes_1 : decode cX11_laysTakes 1 = .ok (.invokevirtual 335, 3) := by decide +kernel
theorem dX11_laysTakes_4 : decode cX11_laysTakes 4 = .ok (.iconst 0, 1) := by decide +kernel
theorem dX11_laysTakes_5 : decode cX11_laysTakes 5 = .ok (.istore_n 2, 1) := by decide +kernel
theorem dX11_laysTakes_6 : decode cX11_laysTakes 6 = .ok (.iload_n 2, 1) := by decide +kernel
theorem dX11_laysTakes_7 : decode cX11_laysTakes 7 = .ok (.bipush 8, 2) := by decide +kernel
theorem dX11_laysTakes_9 : decode cX11_laysTakes 9 = .ok (.if_icmp .ge 16, 3) := by decide +kernel
theorem dX11_laysTakes_12 : decode cX11_laysTakes 12 = .ok (.aload_n 0, 1) := by decide +kernel
theorem dX11_laysTakes_13 : decode cX11_laysTakes 13 = .ok (.getfield 42, 3) := by decide +kernel
theorem dX11_laysTakes_16 : decode cX11_laysTakes 16 = .ok (.iload_n 2, 1) := by decide +kernel
theorem dX11_laysTakes_17 : decode cX11_laysTakes 17 = .ok (.iconst 0, 1) := by decide +kernel
theorem dX11_laysTakes_18 : decode cX11_laysTakes 18 = .ok (.iastore, 1) := by decide +kernel
theorem dX11_laysTakes_19 : decode cX11_laysTakes 19 = .ok (.iinc 2 1, 3) := by decide +kernel
theorem dX11_laysTakes_22 : decode cX11_laysTakes 22 = .ok (.goto (-16), 3) := by decide +kernel
theorem dX11_laysTakes_25 : decode cX11_laysTakes 25 = .ok (.iconst 0, 1) := by decide +kernel
theorem dX11_laysTakes_26 : decode cX11_laysTakes 26 = .ok (.istore_n 2, 1) := by decide +kernel
theorem dX11_laysTakes_27 : decode cX11_laysTakes 27 = .ok (.iload_n 2, 1) := by decide +kernel
theorem dX11_laysTakes_28 : decode cX11_laysTakes 28 = .ok (.iload_n 1, 1) := by decide +kernel
theorem dX11_laysTakes_29 : decode cX11_laysTakes 29 = .ok (.if_icmp .ge 61, 3) := by decide +kernel
theorem dX11_laysTakes_32 : decode cX11_laysTakes 32 = .ok (.iconst 0, 1) := by decide +kernel
theorem dX11_laysTakes_33 : decode cX11_laysTakes 33 = .ok (.istore_n 3, 1) := by decide +kernel
theorem dX11_laysTakes_34 : decode cX11_laysTakes 34 = .ok (.iload_n 3, 1) := by decide +kernel
theorem dX11_laysTakes_35 : decode cX11_laysTakes 35 = .ok (.aload_n 0, 1) := by decide +kernel
theorem dX11_laysTakes_36 : decode cX11_laysTakes 36 = .ok (.invokevirtual 76, 3) := by decide +kernel
theorem dX11_laysTakes_39 : decode cX11_laysTakes 39 = .ok (.if_icmp .ge 41, 3) := by decide +kernel
theorem dX11_laysTakes_42 : decode cX11_laysTakes 42 = .ok (.aload_n 0, 1) := by decide +kernel
theorem dX11_laysTakes_43 : decode cX11_laysTakes 43 = .ok (.iload_n 3, 1) := by decide +kernel
theorem dX11_laysTakes_44 : decode cX11_laysTakes 44 = .ok (.invokevirtual 286, 3) := by decide +kernel
theorem dX11_laysTakes_47 : decode cX11_laysTakes 47 = .ok (.istore 4, 2) := by decide +kernel
theorem dX11_laysTakes_49 : decode cX11_laysTakes 49 = .ok (.aload_n 0, 1) := by decide +kernel
theorem dX11_laysTakes_50 : decode cX11_laysTakes 50 = .ok (.iload_n 3, 1) := by decide +kernel
theorem dX11_laysTakes_51 : decode cX11_laysTakes 51 = .ok (.invokevirtual 314, 3) := by decide +kernel
theorem dX11_laysTakes_54 : decode cX11_laysTakes 54 = .ok (.istore 5, 2) := by decide +kernel
theorem dX11_laysTakes_56 : decode cX11_laysTakes 56 = .ok (.iload 4, 2) := by decide +kernel
theorem dX11_laysTakes_58 : decode cX11_laysTakes 58 = .ok (.iconst (-1), 1) := by decide +kernel
theorem dX11_laysTakes_59 : decode cX11_laysTakes 59 = .ok (.if_icmp .eq 15, 3) := by decide +kernel
theorem dX11_laysTakes_62 : decode cX11_laysTakes 62 = .ok (.aload_n 0, 1) := by decide +kernel
theorem dX11_laysTakes_63 : decode cX11_laysTakes 63 = .ok (.getfield 42, 3) := by decide +kernel
theorem dX11_laysTakes_66 : decode cX11_laysTakes 66 = .ok (.iload 4, 2) := by decide +kernel
theorem dX11_laysTakes_68 : decode cX11_laysTakes 68 = .ok (.dup2, 1) := by decide +kernel
theorem dX11_laysTakes_69 : decode cX11_laysTakes 69 = .ok (.iaload, 1) := by decide +kernel
theorem dX11_laysTakes_70 : decode cX11_laysTakes 70 = .ok (.iload 5, 2) := by decide +kernel
theorem dX11_laysTakes_72 : decode cX11_laysTakes 72 = .ok (.iadd, 1) := by decide +kernel
theorem dX11_laysTakes_73 : decode cX11_laysTakes 73 = .ok (.iastore, 1) := by decide +kernel
theorem dX11_laysTakes_74 : decode cX11_laysTakes 74 = .ok (.iinc 3 1, 3) := by decide +kernel
theorem dX11_laysTakes_77 : decode cX11_laysTakes 77 = .ok (.goto (-43), 3) := by decide +kernel
theorem dX11_laysTakes_80 : decode cX11_laysTakes 80 = .ok (.aload_n 0, 1) := by decide +kernel
theorem dX11_laysTakes_81 : decode cX11_laysTakes 81 = .ok (.invokevirtual 324, 3) := by decide +kernel
theorem dX11_laysTakes_84 : decode cX11_laysTakes 84 = .ok (.iinc 2 1, 3) := by decide +kernel
theorem dX11_laysTakes_87 : decode cX11_laysTakes 87 = .ok (.goto (-60), 3) := by decide +kernel
theorem dX11_laysTakes_90 : decode cX11_laysTakes 90 = .ok (.aload_n 0, 1) := by decide +kernel
theorem dX11_laysTakes_91 : decode cX11_laysTakes 91 = .ok (.invokevirtual 341, 3) := by decide +kernel
theorem dX11_laysTakes_94 : decode cX11_laysTakes 94 = .ok (.return_, 1) := by decide +kernel
theorem dX11_passesOn_0 : decode cX11_passesOn 0 = .ok (.iconst 0, 1) := by decide +kernel
theorem dX11_passesOn_1 : decode cX11_passesOn 1 = .ok (.istore_n 1, 1) := by decide +kernel
theorem dX11_passesOn_2 : decode cX11_passesOn 2 = .ok (.iload_n 1, 1) := by decide +kernel
theorem dX11_passesOn_3 : decode cX11_passesOn 3 = .ok (.aload_n 0, 1) := by decide +kernel
theorem dX11_passesOn_4 : decode cX11_passesOn 4 = .ok (.invokevirtual 76, 3) := by decide +kernel
theorem dX11_passesOn_7 : decode cX11_passesOn 7 = .ok (.if_icmp .ge 35, 3) := by decide +kernel
theorem dX11_passesOn_10 : decode cX11_passesOn 10 = .ok (.aload_n 0, 1) := by decide +kernel
theorem dX11_passesOn_11 : decode cX11_passesOn 11 = .ok (.getfield 13, 3) := by decide +kernel
theorem dX11_passesOn_14 : decode cX11_passesOn 14 = .ok (.iload_n 1, 1) := by decide +kernel
theorem dX11_passesOn_15 : decode cX11_passesOn 15 = .ok (.iconst 0, 1) := by decide +kernel
theorem dX11_passesOn_16 : decode cX11_passesOn 16 = .ok (.invokestatic 62, 3) := by decide +kernel
theorem dX11_passesOn_19 : decode cX11_passesOn 19 = .ok (.aload_n 0, 1) := by decide +kernel
theorem dX11_passesOn_20 : decode cX11_passesOn 20 = .ok (.iload_n 1, 1) := by decide +kernel
theorem dX11_passesOn_21 : decode cX11_passesOn 21 = .ok (.iconst 0, 1) := by decide +kernel
theorem dX11_passesOn_22 : decode cX11_passesOn 22 = .ok (.invokevirtual 65, 3) := by decide +kernel
theorem dX11_passesOn_25 : decode cX11_passesOn 25 = .ok (.aload_n 0, 1) := by decide +kernel
theorem dX11_passesOn_26 : decode cX11_passesOn 26 = .ok (.iload_n 1, 1) := by decide +kernel
theorem dX11_passesOn_27 : decode cX11_passesOn 27 = .ok (.iconst 4, 1) := by decide +kernel
theorem dX11_passesOn_28 : decode cX11_passesOn 28 = .ok (.invokevirtual 65, 3) := by decide +kernel
theorem dX11_passesOn_31 : decode cX11_passesOn 31 = .ok (.iadd, 1) := by decide +kernel
theorem dX11_passesOn_32 : decode cX11_passesOn 32 = .ok (.bipush 10, 2) := by decide +kernel
theorem dX11_passesOn_34 : decode cX11_passesOn 34 = .ok (.irem, 1) := by decide +kernel
theorem dX11_passesOn_35 : decode cX11_passesOn 35 = .ok (.iastore, 1) := by decide +kernel
theorem dX11_passesOn_36 : decode cX11_passesOn 36 = .ok (.iinc 1 1, 3) := by decide +kernel
theorem dX11_passesOn_39 : decode cX11_passesOn 39 = .ok (.goto (-37), 3) := by decide +kernel
theorem dX11_passesOn_42 : decode cX11_passesOn 42 = .ok (.aload_n 0, 1) := by decide +kernel
theorem dX11_passesOn_43 : decode cX11_passesOn 43 = .ok (.getfield 13, 3) := by decide +kernel
theorem dX11_passesOn_46 : decode cX11_passesOn 46 = .ok (.iconst 4, 1) := by decide +kernel
theorem dX11_passesOn_47 : decode cX11_passesOn 47 = .ok (.aload_n 0, 1) := by decide +kernel
theorem dX11_passesOn_48 : decode cX11_passesOn 48 = .ok (.getfield 13, 3) := by decide +kernel
theorem dX11_passesOn_51 : decode cX11_passesOn 51 = .ok (.iconst 4, 1) := by decide +kernel
theorem dX11_passesOn_52 : decode cX11_passesOn 52 = .ok (.iaload, 1) := by decide +kernel
theorem dX11_passesOn_53 : decode cX11_passesOn 53 = .ok (.iconst 1, 1) := by decide +kernel
theorem dX11_passesOn_54 : decode cX11_passesOn 54 = .ok (.iadd, 1) := by decide +kernel
theorem dX11_passesOn_55 : decode cX11_passesOn 55 = .ok (.bipush 12, 2) := by decide +kernel
theorem dX11_passesOn_57 : decode cX11_passesOn 57 = .ok (.irem, 1) := by decide +kernel
theorem dX11_passesOn_58 : decode cX11_passesOn 58 = .ok (.iastore, 1) := by decide +kernel
theorem dX11_passesOn_59 : decode cX11_passesOn 59 = .ok (.aload_n 0, 1) := by decide +kernel
theorem dX11_passesOn_60 : decode cX11_passesOn 60 = .ok (.getfield 13, 3) := by decide +kernel
theorem dX11_passesOn_63 : decode cX11_passesOn 63 = .ok (.iconst 4, 1) := by decide +kernel
theorem dX11_passesOn_64 : decode cX11_passesOn 64 = .ok (.iaload, 1) := by decide +kernel
theorem dX11_passesOn_65 : decode cX11_passesOn 65 = .ok (.ifCond .ne 23, 3) := by decide +kernel
theorem dX11_passesOn_68 : decode cX11_passesOn 68 = .ok (.aload_n 0, 1) := by decide +kernel
theorem dX11_passesOn_69 : decode cX11_passesOn 69 = .ok (.getfield 13, 3) := by decide +kernel
theorem dX11_passesOn_72 : decode cX11_passesOn 72 = .ok (.iconst 5, 1) := by decide +kernel
theorem dX11_passesOn_73 : decode cX11_passesOn 73 = .ok (.sipush 9999, 3) := by decide +kernel
theorem dX11_passesOn_76 : decode cX11_passesOn 76 = .ok (.aload_n 0, 1) := by decide +kernel
theorem dX11_passesOn_77 : decode cX11_passesOn 77 = .ok (.getfield 13, 3) := by decide +kernel
theorem dX11_passesOn_80 : decode cX11_passesOn 80 = .ok (.iconst 5, 1) := by decide +kernel
theorem dX11_passesOn_81 : decode cX11_passesOn 81 = .ok (.iaload, 1) := by decide +kernel
theorem dX11_passesOn_82 : decode cX11_passesOn 82 = .ok (.iconst 1, 1) := by decide +kernel
theorem dX11_passesOn_83 : decode cX11_passesOn 83 = .ok (.iadd, 1) := by decide +kernel
theorem dX11_passesOn_84 : decode cX11_passesOn 84 = .ok (.invokestatic 262, 3) := by decide +kernel
theorem dX11_passesOn_87 : decode cX11_passesOn 87 = .ok (.iastore, 1) := by decide +kernel
theorem dX11_passesOn_88 : decode cX11_passesOn 88 = .ok (.return_, 1) := by decide +kernel
theorem dX11_takes_0 : decode cX11_takes 0 = .ok (.aload_n 0, 1) := by decide +kernel
theorem dX11_takes_1 : decode cX11_takes 1 = .ok (.iconst 0, 1) := by decide +kernel
theorem dX11_takes_2 : decode cX11_takes 2 = .ok (.putfield 3, 3) := by decide +kernel
theorem dX11_takes_5 : decode cX11_takes 5 = .ok (.aload_n 0, 1) := by decide +kernel
theorem dX11_takes_6 : decode cX11_takes 6 = .ok (.aload_n 0, 1) := by decide +kernel
theorem dX11_takes_7 : decode cX11_takes 7 = .ok (.iload_n 1, 1) := by decide +kernel
theorem dX11_takes_8 : decode cX11_takes 8 = .ok (.invokevirtual 274, 3) := by decide +kernel
theorem dX11_takes_11 : decode cX11_takes 11 = .ok (.iconst 1, 1) := by decide +kernel
theorem dX11_takes_12 : decode cX11_takes 12 = .ok (.invokevirtual 240, 3) := by decide +kernel
theorem dX11_takes_15 : decode cX11_takes 15 = .ok (.ifCond .ne 15, 3) := by decide +kernel
theorem dX11_takes_18 : decode cX11_takes 18 = .ok (.aload_n 0, 1) := by decide +kernel
theorem dX11_takes_19 : decode cX11_takes 19 = .ok (.iload_n 2, 1) := by decide +kernel
theorem dX11_takes_20 : decode cX11_takes 20 = .ok (.invokestatic 350, 3) := by decide +kernel
theorem dX11_takes_23 : decode cX11_takes 23 = .ok (.iconst 2, 1) := by decide +kernel
theorem dX11_takes_24 : decode cX11_takes 24 = .ok (.invokevirtual 240, 3) := by decide +kernel
theorem dX11_takes_27 : decode cX11_takes 27 = .ok (.ifCond .eq 5, 3) := by decide +kernel
theorem dX11_takes_30 : decode cX11_takes 30 = .ok (.iconst 0, 1) := by decide +kernel
theorem dX11_takes_31 : decode cX11_takes 31 = .ok (.ireturn, 1) := by decide +kernel
theorem dX11_takes_32 : decode cX11_takes 32 = .ok (.aload_n 0, 1) := by decide +kernel
theorem dX11_takes_33 : decode cX11_takes 33 = .ok (.iload_n 2, 1) := by decide +kernel
theorem dX11_takes_34 : decode cX11_takes 34 = .ok (.invokevirtual 353, 3) := by decide +kernel
theorem dX11_takes_37 : decode cX11_takes 37 = .ok (.aload_n 0, 1) := by decide +kernel
theorem dX11_takes_38 : decode cX11_takes 38 = .ok (.getfield 42, 3) := by decide +kernel
theorem dX11_takes_41 : decode cX11_takes 41 = .ok (.iload_n 1, 1) := by decide +kernel
theorem dX11_takes_42 : decode cX11_takes 42 = .ok (.iaload, 1) := by decide +kernel
theorem dX11_takes_43 : decode cX11_takes 43 = .ok (.ireturn, 1) := by decide +kernel
theorem dX11_keenest_0 : decode cX11_keenest 0 = .ok (.aload_n 0, 1) := by decide +kernel
theorem dX11_keenest_1 : decode cX11_keenest 1 = .ok (.iconst 0, 1) := by decide +kernel
theorem dX11_keenest_2 : decode cX11_keenest 2 = .ok (.putfield 3, 3) := by decide +kernel
theorem dX11_keenest_5 : decode cX11_keenest 5 = .ok (.aload_n 0, 1) := by decide +kernel
theorem dX11_keenest_6 : decode cX11_keenest 6 = .ok (.iload_n 1, 1) := by decide +kernel
theorem dX11_keenest_7 : decode cX11_keenest 7 = .ok (.invokestatic 350, 3) := by decide +kernel
theorem dX11_keenest_10 : decode cX11_keenest 10 = .ok (.iconst 1, 1) := by decide +kernel
theorem dX11_keenest_11 : decode cX11_keenest 11 = .ok (.invokevirtual 240, 3) := by decide +kernel
theorem dX11_keenest_14 : decode cX11_keenest 14 = .ok (.ifCond .eq 5, 3) := by decide +kernel
theorem dX11_keenest_17 : decode cX11_keenest 17 = .ok (.iconst 0, 1) := by decide +kernel
theorem dX11_keenest_18 : decode cX11_keenest 18 = .ok (.ireturn, 1) := by decide +kernel
theorem dX11_keenest_19 : decode cX11_keenest 19 = .ok (.aload_n 0, 1) := by decide +kernel
theorem dX11_keenest_20 : decode cX11_keenest 20 = .ok (.iload_n 1, 1) := by decide +kernel
theorem dX11_keenest_21 : decode cX11_keenest 21 = .ok (.invokevirtual 353, 3) := by decide +kernel
theorem dX11_keenest_24 : decode cX11_keenest 24 = .ok (.iconst (-1), 1) := by decide +kernel
theorem dX11_keenest_25 : decode cX11_keenest 25 = .ok (.istore_n 2, 1) := by decide +kernel
theorem dX11_keenest_26 : decode cX11_keenest 26 = .ok (.iconst 0, 1) := by decide +kernel
theorem dX11_keenest_27 : decode cX11_keenest 27 = .ok (.istore_n 3, 1) := by decide +kernel
theorem dX11_keenest_28 : decode cX11_keenest 28 = .ok (.iload_n 3, 1) := by decide +kernel
theorem dX11_keenest_29 : decode cX11_keenest 29 = .ok (.aload_n 0, 1) := by decide +kernel
theorem dX11_keenest_30 : decode cX11_keenest 30 = .ok (.invokevirtual 68, 3) := by decide +kernel
theorem dX11_keenest_33 : decode cX11_keenest 33 = .ok (.if_icmp .ge 34, 3) := by decide +kernel
theorem dX11_keenest_36 : decode cX11_keenest 36 = .ok (.iload_n 2, 1) := by decide +kernel
theorem dX11_keenest_37 : decode cX11_keenest 37 = .ok (.ifCond .lt 18, 3) := by decide +kernel
theorem dX11_keenest_40 : decode cX11_keenest 40 = .ok (.aload_n 0, 1) := by decide +kernel
theorem dX11_keenest_41 : decode cX11_keenest 41 = .ok (.getfield 42, 3) := by decide +kernel
theorem dX11_keenest_44 : decode cX11_keenest 44 = .ok (.iload_n 3, 1) := by decide +kernel
theorem dX11_keenest_45 : decode cX11_keenest 45 = .ok (.iaload, 1) := by decide +kernel
theorem dX11_keenest_46 : decode cX11_keenest 46 = .ok (.aload_n 0, 1) := by decide +kernel
theorem dX11_keenest_47 : decode cX11_keenest 47 = .ok (.getfield 42, 3) := by decide +kernel
theorem dX11_keenest_50 : decode cX11_keenest 50 = .ok (.iload_n 2, 1) := by decide +kernel
theorem dX11_keenest_51 : decode cX11_keenest 51 = .ok (.iaload, 1) := by decide +kernel
theorem dX11_keenest_52 : decode cX11_keenest 52 = .ok (.if_icmp .le 7, 3) := by decide +kernel
theorem dX11_keenest_55 : decode cX11_keenest 55 = .ok (.iload_n 3, 1) := by decide +kernel
theorem dX11_keenest_56 : decode cX11_keenest 56 = .ok (.goto 4, 3) := by decide +kernel
theorem dX11_keenest_59 : decode cX11_keenest 59 = .ok (.iload_n 2, 1) := by decide +kernel
theorem dX11_keenest_60 : decode cX11_keenest 60 = .ok (.istore_n 2, 1) := by decide +kernel
theorem dX11_keenest_61 : decode cX11_keenest 61 = .ok (.iinc 3 1, 3) := by decide +kernel
theorem dX11_keenest_64 : decode cX11_keenest 64 = .ok (.goto (-36), 3) := by decide +kernel
theorem dX11_keenest_67 : decode cX11_keenest 67 = .ok (.iload_n 2, 1) := by decide +kernel
theorem dX11_keenest_68 : decode cX11_keenest 68 = .ok (.ireturn, 1) := by decide +kernel
theorem dX11_goes_0 : decode cX11_goes 0 = .ok (.aload_n 0, 1) := by decide +kernel
theorem dX11_goes_1 : decode cX11_goes 1 = .ok (.iconst 0, 1) := by decide +kernel
theorem dX11_goes_2 : decode cX11_goes 2 = .ok (.putfield 3, 3) := by decide +kernel
theorem dX11_goes_5 : decode cX11_goes 5 = .ok (.aload_n 0, 1) := by decide +kernel
theorem dX11_goes_6 : decode cX11_goes 6 = .ok (.aload_n 0, 1) := by decide +kernel
theorem dX11_goes_7 : decode cX11_goes 7 = .ok (.iload_n 1, 1) := by decide +kernel
theorem dX11_goes_8 : decode cX11_goes 8 = .ok (.invokevirtual 283, 3) := by decide +kernel
theorem dX11_goes_11 : decode cX11_goes 11 = .ok (.iconst 1, 1) := by decide +kernel
theorem dX11_goes_12 : decode cX11_goes 12 = .ok (.invokevirtual 240, 3) := by decide +kernel
theorem dX11_goes_15 : decode cX11_goes 15 = .ok (.ifCond .ne 15, 3) := by decide +kernel
theorem dX11_goes_18 : decode cX11_goes 18 = .ok (.aload_n 0, 1) := by decide +kernel
theorem dX11_goes_19 : decode cX11_goes 19 = .ok (.iload_n 2, 1) := by decide +kernel
theorem dX11_goes_20 : decode cX11_goes 20 = .ok (.invokestatic 350, 3) := by decide +kernel
theorem dX11_goes_23 : decode cX11_goes 23 = .ok (.iconst 2, 1) := by decide +kernel
theorem dX11_goes_24 : decode cX11_goes 24 = .ok (.invokevirtual 240, 3) := by decide +kernel
theorem dX11_goes_27 : decode cX11_goes 27 = .ok (.ifCond .eq 5, 3) := by decide +kernel
theorem dX11_goes_30 : decode cX11_goes 30 = .ok (.iconst 0, 1) := by decide +kernel
theorem dX11_goes_31 : decode cX11_goes 31 = .ok (.ireturn, 1) := by decide +kernel
theorem dX11_goes_32 : decode cX11_goes 32 = .ok (.aload_n 0, 1) := by decide +kernel
theorem dX11_goes_33 : decode cX11_goes 33 = .ok (.iload_n 1, 1) := by decide +kernel
theorem dX11_goes_34 : decode cX11_goes 34 = .ok (.iconst 0, 1) := by decide +kernel
theorem dX11_goes_35 : decode cX11_goes 35 = .ok (.invokevirtual 65, 3) := by decide +kernel
theorem dX11_goes_38 : decode cX11_goes 38 = .ok (.iload_n 2, 1) := by decide +kernel
theorem dX11_goes_39 : decode cX11_goes 39 = .ok (.aload_n 0, 1) := by decide +kernel
theorem dX11_goes_40 : decode cX11_goes 40 = .ok (.iload_n 1, 1) := by decide +kernel
theorem dX11_goes_41 : decode cX11_goes 41 = .ok (.iconst 4, 1) := by decide +kernel
theorem dX11_goes_42 : decode cX11_goes 42 = .ok (.invokevirtual 65, 3) := by decide +kernel
theorem dX11_goes_45 : decode cX11_goes 45 = .ok (.imul, 1) := by decide +kernel
theorem dX11_goes_46 : decode cX11_goes 46 = .ok (.iadd, 1) := by decide +kernel
theorem dX11_goes_47 : decode cX11_goes 47 = .ok (.bipush 10, 2) := by decide +kernel
theorem dX11_goes_49 : decode cX11_goes 49 = .ok (.irem, 1) := by decide +kernel
theorem dX11_goes_50 : decode cX11_goes 50 = .ok (.ireturn, 1) := by decide +kernel
theorem dX11_grainsIn_0 : decode cX11_grainsIn 0 = .ok (.aload_n 0, 1) := by decide +kernel
theorem dX11_grainsIn_1 : decode cX11_grainsIn 1 = .ok (.invokevirtual 335, 3) := by decide +kernel
theorem dX11_grainsIn_4 : decode cX11_grainsIn 4 = .ok (.aload_n 0, 1) := by decide +kernel
theorem dX11_grainsIn_5 : decode cX11_grainsIn 5 = .ok (.iload_n 2, 1) := by decide +kernel
theorem dX11_grainsIn_6 : decode cX11_grainsIn 6 = .ok (.iconst 1, 1) := by decide +kernel
theorem dX11_grainsIn_7 : decode cX11_grainsIn 7 = .ok (.invokevirtual 330, 3) := by decide +kernel
theorem dX11_grainsIn_10 : decode cX11_grainsIn 10 = .ok (.pop, 1) := by decide +kernel
theorem dX11_grainsIn_11 : decode cX11_grainsIn 11 = .ok (.aload_n 0, 1) := by decide +kernel
theorem dX11_grainsIn_12 : decode cX11_grainsIn 12 = .ok (.iload_n 1, 1) := by decide +kernel
theorem dX11_grainsIn_13 : decode cX11_grainsIn 13 = .ok (.iconst 2, 1) := by decide +kernel
theorem dX11_grainsIn_14 : decode cX11_grainsIn 14 = .ok (.invokevirtual 65, 3) := by decide +kernel
theorem dX11_grainsIn_17 : decode cX11_grainsIn 17 = .ok (.istore_n 3, 1) := by decide +kernel
theorem dX11_grainsIn_18 : decode cX11_grainsIn 18 = .ok (.aload_n 0, 1) := by decide +kernel
theorem dX11_grainsIn_19 : decode cX11_grainsIn 19 = .ok (.invokevirtual 341, 3) := by decide +kernel
theorem dX11_grainsIn_22 : decode cX11_grainsIn 22 = .ok (.iload_n 3, 1) := by decide +kernel
theorem dX11_grainsIn_23 : decode cX11_grainsIn 23 = .ok (.ireturn, 1) := by decide +kernel
theorem dX11_ahead_0 : decode cX11_ahead 0 = .ok (.aload_n 0, 1) := by decide +kernel
theorem dX11_ahead_1 : decode cX11_ahead 1 = .ok (.iconst 0, 1) := by decide +kernel
theorem dX11_ahead_2 : decode cX11_ahead 2 = .ok (.putfield 3, 3) := by decide +kernel
theorem dX11_ahead_5 : decode cX11_ahead 5 = .ok (.aload_n 0, 1) := by decide +kernel
theorem dX11_ahead_6 : decode cX11_ahead 6 = .ok (.aload_n 0, 1) := by decide +kernel
theorem dX11_ahead_7 : decode cX11_ahead 7 = .ok (.iload_n 1, 1) := by decide +kernel
theorem dX11_ahead_8 : decode cX11_ahead 8 = .ok (.invokevirtual 283, 3) := by decide +kernel
theorem dX11_ahead_11 : decode cX11_ahead 11 = .ok (.iconst 1, 1) := by decide +kernel
theorem dX11_ahead_12 : decode cX11_ahead 12 = .ok (.invokevirtual 240, 3) := by decide +kernel
theorem dX11_ahead_15 : decode cX11_ahead 15 = .ok (.ifCond .ne 15, 3) := by decide +kernel
theorem dX11_ahead_18 : decode cX11_ahead 18 = .ok (.aload_n 0, 1) := by decide +kernel
theorem dX11_ahead_19 : decode cX11_ahead 19 = .ok (.iload_n 2, 1) := by decide +kernel
theorem dX11_ahead_20 : decode cX11_ahead 20 = .ok (.invokestatic 350, 3) := by decide +kernel
theorem dX11_ahead_23 : decode cX11_ahead 23 = .ok (.iconst 2, 1) := by decide +kernel
theorem dX11_ahead_24 : decode cX11_ahead 24 = .ok (.invokevirtual 240, 3) := by decide +kernel
theorem dX11_ahead_27 : decode cX11_ahead 27 = .ok (.ifCond .eq 7, 3) := by decide +kernel
theorem dX11_ahead_30 : decode cX11_ahead 30 = .ok (.iconst 0, 1) := by decide +kernel
theorem dX11_ahead_31 : decode cX11_ahead 31 = .ok (.goto 9, 3) := by decide +kernel
theorem dX11_ahead_34 : decode cX11_ahead 34 = .ok (.aload_n 0, 1) := by decide +kernel
theorem dX11_ahead_35 : decode cX11_ahead 35 = .ok (.iload_n 1, 1) := by decide +kernel
theorem dX11_ahead_36 : decode cX11_ahead 36 = .ok (.iload_n 2, 1) := by decide +kernel
theorem dX11_ahead_37 : decode cX11_ahead 37 = .ok (.invokevirtual 356, 3) := by decide +kernel
theorem dX11_ahead_40 : decode cX11_ahead 40 = .ok (.ireturn, 1) := by decide +kernel
theorem dX11_least_0 : decode cX11_least 0 = .ok (.aload_n 0, 1) := by decide +kernel
theorem dX11_least_1 : decode cX11_least 1 = .ok (.iconst 0, 1) := by decide +kernel
theorem dX11_least_2 : decode cX11_least 2 = .ok (.putfield 3, 3) := by decide +kernel
theorem dX11_least_5 : decode cX11_least 5 = .ok (.aload_n 0, 1) := by decide +kernel
theorem dX11_least_6 : decode cX11_least 6 = .ok (.iload_n 1, 1) := by decide +kernel
theorem dX11_least_7 : decode cX11_least 7 = .ok (.iconst 0, 1) := by decide +kernel
theorem dX11_least_8 : decode cX11_least 8 = .ok (.bipush 60, 2) := by decide +kernel
theorem dX11_least_10 : decode cX11_least 10 = .ok (.invokestatic 72, 3) := by decide +kernel
theorem dX11_least_13 : decode cX11_least 13 = .ok (.ifCond .ne 7, 3) := by decide +kernel
theorem dX11_least_16 : decode cX11_least 16 = .ok (.iconst 1, 1) := by decide +kernel
theorem dX11_least_17 : decode cX11_least 17 = .ok (.goto 4, 3) := by decide +kernel
theorem dX11_least_20 : decode cX11_least 20 = .ok (.iconst 0, 1) := by decide +kernel
theorem dX11_least_21 : decode cX11_least 21 = .ok (.iconst 1, 1) := by decide +kernel
theorem dX11_least_22 : decode cX11_least 22 = .ok (.invokevirtual 240, 3) := by decide +kernel
theorem dX11_least_25 : decode cX11_least 25 = .ok (.ifCond .eq 5, 3) := by decide +kernel
theorem dX11_least_28 : decode cX11_least 28 = .ok (.iconst 0, 1) := by decide +kernel
theorem dX11_least_29 : decode cX11_least 29 = .ok (.ireturn, 1) := by decide +kernel
theorem dX11_least_30 : decode cX11_least 30 = .ok (.iconst 0, 1) := by decide +kernel
theorem dX11_least_31 : decode cX11_least 31 = .ok (.istore_n 2, 1) := by decide +kernel
theorem dX11_least_32 : decode cX11_least 32 = .ok (.ldc_w 334, 3) := by decide +kernel
theorem dX11_least_35 : decode cX11_least 35 = .ok (.istore_n 3, 1) := by decide +kernel
theorem dX11_least_36 : decode cX11_least 36 = .ok (.aload_n 0, 1) := by decide +kernel
theorem dX11_least_37 : decode cX11_least 37 = .ok (.invokevirtual 335, 3) := by decide +kernel
theorem dX11_least_40 : decode cX11_least 40 = .ok (.iconst 0, 1) := by decide +kernel
theorem dX11_least_41 : decode cX11_least 41 = .ok (.istore 4, 2) := by decide +kernel
theorem dX11_least_43 : decode cX11_least 43 = .ok (.iload 4, 2) := by decide +kernel
theorem dX11_least_45 : decode cX11_least 45 = .ok (.iload_n 1, 1) := by decide +kernel
theorem dX11_least_46 : decode cX11_least 46 = .ok (.if_icmp .gt 36, 3) := by decide +kernel
theorem dX11_least_49 : decode cX11_least 49 = .ok (.aload_n 0, 1) := by decide +kernel
theorem dX11_least_50 : decode cX11_least 50 = .ok (.iconst 1, 1) := by decide +kernel
theorem dX11_least_51 : decode cX11_least 51 = .ok (.invokevirtual 327, 3) := by decide +kernel
theorem dX11_least_54 : decode cX11_least 54 = .ok (.istore 5, 2) := by decide +kernel
theorem dX11_least_56 : decode cX11_least 56 = .ok (.iload 5, 2) := by decide +kernel
theorem dX11_least_58 : decode cX11_least 58 = .ok (.iload_n 3, 1) := by decide +kernel
theorem dX11_least_59 : decode cX11_least 59 = .ok (.if_icmp .ge 8, 3) := by decide +kernel
theorem dX11_least_62 : decode cX11_least 62 = .ok (.iload 4, 2) := by decide +kernel
theorem dX11_least_64 : decode cX11_least 64 = .ok (.goto 4, 3) := by decide +kernel
theorem dX11_least_67 : decode cX11_least 67 = .ok (.iload_n 2, 1) := by decide +kernel
theorem dX11_least_68 : decode cX11_least 68 = .ok (.istore_n 2, 1) := by decide +kernel
theorem dX11_least_69 : decode cX11_least 69 = .ok (.iload_n 3, 1) := by decide +kernel
theorem dX11_least_70 : decode cX11_least 70 = .ok (.iload 5, 2) := by decide +kernel
theorem dX11_least_72 : decode cX11_least 72 = .ok (.invokestatic 262, 3) := by decide +kernel
theorem dX11_least_75 : decode cX11_least 75 = .ok (.istore_n 3, 1) := by decide +kernel
theorem dX11_least_76 : decode cX11_least 76 = .ok (.iinc 4 1, 3) := by decide +kernel
theorem dX11_least_79 : decode cX11_least 79 = .ok (.goto (-36), 3) := by decide +kernel
theorem dX11_least_82 : decode cX11_least 82 = .ok (.aload_n 0, 1) := by decide +kernel
theorem dX11_least_83 : decode cX11_least 83 = .ok (.invokevirtual 341, 3) := by decide +kernel
theorem dX11_least_86 : decode cX11_least 86 = .ok (.iload_n 2, 1) := by decide +kernel
theorem dX11_least_87 : decode cX11_least 87 = .ok (.ireturn, 1) := by decide +kernel
theorem dX11_swap_0 : decode cX11_swap 0 = .ok (.aload_n 0, 1) := by decide +kernel
theorem dX11_swap_1 : decode cX11_swap 1 = .ok (.iconst 0, 1) := by decide +kernel
theorem dX11_swap_2 : decode cX11_swap 2 = .ok (.putfield 3, 3) := by decide +kernel
theorem dX11_swap_5 : decode cX11_swap 5 = .ok (.iconst (-1), 1) := by decide +kernel
theorem dX11_swap_6 : decode cX11_swap 6 = .ok (.istore_n 1, 1) := by decide +kernel
theorem dX11_swap_7 : decode cX11_swap 7 = .ok (.aload_n 0, 1) := by decide +kernel
theorem dX11_swap_8 : decode cX11_swap 8 = .ok (.bipush 31, 2) := by decide +kernel
theorem dX11_swap_10 : decode cX11_swap 10 = .ok (.invokevirtual 344, 3) := by decide +kernel
theorem dX11_swap_13 : decode cX11_swap 13 = .ok (.istore_n 2, 1) := by decide +kernel
theorem dX11_swap_14 : decode cX11_swap 14 = .ok (.iconst 0, 1) := by decide +kernel
theorem dX11_swap_15 : decode cX11_swap 15 = .ok (.istore_n 3, 1) := by decide +kernel
theorem dX11_swap_16 : decode cX11_swap 16 = .ok (.iload_n 3, 1) := by decide +kernel
theorem dX11_swap_17 : decode cX11_swap 17 = .ok (.bipush 10, 2) := by decide +kernel
theorem dX11_swap_19 : decode cX11_swap 19 = .ok (.if_icmp .ge 74, 3) := by decide +kernel
theorem dX11_swap_22 : decode cX11_swap 22 = .ok (.iload_n 3, 1) := by decide +kernel
theorem dX11_swap_23 : decode cX11_swap 23 = .ok (.iconst 1, 1) := by decide +kernel
theorem dX11_swap_24 : decode cX11_swap 24 = .ok (.iadd, 1) := by decide +kernel
theorem dX11_swap_25 : decode cX11_swap 25 = .ok (.istore 4, 2) := by decide +kernel
theorem dX11_swap_27 : decode cX11_swap 27 = .ok (.iload 4, 2) := by decide +kernel
theorem dX11_swap_29 : decode cX11_swap 29 = .ok (.bipush 10, 2) := by decide +kernel
theorem dX11_swap_31 : decode cX11_swap 31 = .ok (.if_icmp .ge 56, 3) := by decide +kernel
theorem dX11_swap_34 : decode cX11_swap 34 = .ok (.aload_n 0, 1) := by decide +kernel
theorem dX11_swap_35 : decode cX11_swap 35 = .ok (.iload_n 3, 1) := by decide +kernel
theorem dX11_swap_36 : decode cX11_swap 36 = .ok (.iload 4, 2) := by decide +kernel
theorem dX11_swap_38 : decode cX11_swap 38 = .ok (.invokevirtual 301, 3) := by decide +kernel
theorem dX11_swap_41 : decode cX11_swap 41 = .ok (.aload_n 0, 1) := by decide +kernel
theorem dX11_swap_42 : decode cX11_swap 42 = .ok (.bipush 31, 2) := by decide +kernel
theorem dX11_swap_44 : decode cX11_swap 44 = .ok (.invokevirtual 344, 3) := by decide +kernel
theorem dX11_swap_47 : decode cX11_swap 47 = .ok (.istore 5, 2) := by decide +kernel
theorem dX11_swap_49 : decode cX11_swap 49 = .ok (.aload_n 0, 1) := by decide +kernel
theorem dX11_swap_50 : decode cX11_swap 50 = .ok (.iload_n 3, 1) := by decide +kernel
theorem dX11_swap_51 : decode cX11_swap 51 = .ok (.iload 4, 2) := by decide +kernel
theorem dX11_swap_53 : decode cX11_swap 53 = .ok (.invokevirtual 301, 3) := by decide +kernel
theorem dX11_swap_56 : decode cX11_swap 56 = .ok (.iload 5, 2) := by decide +kernel
theorem dX11_swap_58 : decode cX11_swap 58 = .ok (.iload_n 2, 1) := by decide +kernel
theorem dX11_swap_59 : decode cX11_swap 59 = .ok (.if_icmp .ge 13, 3) := by decide +kernel
theorem dX11_swap_62 : decode cX11_swap 62 = .ok (.bipush 10, 2) := by decide +kernel
theorem dX11_swap_64 : decode cX11_swap 64 = .ok (.iload_n 3, 1) := by decide +kernel
theorem dX11_swap_65 : decode cX11_swap 65 = .ok (.imul, 1) := by decide +kernel
theorem dX11_swap_66 : decode cX11_swap 66 = .ok (.iload 4, 2) := by decide +kernel
theorem dX11_swap_68 : decode cX11_swap 68 = .ok (.iadd, 1) := by decide +kernel
theorem dX11_swap_69 : decode cX11_swap 69 = .ok (.goto 4, 3) := by decide +kernel
theorem dX11_swap_72 : decode cX11_swap 72 = .ok (.iload_n 1, 1) := by decide +kernel
theorem dX11_swap_73 : decode cX11_swap 73 = .ok (.istore_n 1, 1) := by decide +kernel
theorem dX11_swap_74 : decode cX11_swap 74 = .ok (.iload_n 2, 1) := by decide +kernel
theorem dX11_swap_75 : decode cX11_swap 75 = .ok (.iload 5, 2) := by decide +kernel
theorem dX11_swap_77 : decode cX11_swap 77 = .ok (.invokestatic 262, 3) := by decide +kernel
theorem dX11_swap_80 : decode cX11_swap 80 = .ok (.istore_n 2, 1) := by decide +kernel
theorem dX11_swap_81 : decode cX11_swap 81 = .ok (.iinc 4 1, 3) := by decide +kernel
theorem dX11_swap_84 : decode cX11_swap 84 = .ok (.goto (-57), 3) := by decide +kernel
theorem dX11_swap_87 : decode cX11_swap 87 = .ok (.iinc 3 1, 3) := by decide +kernel
theorem dX11_swap_90 : decode cX11_swap 90 = .ok (.goto (-74), 3) := by decide +kernel
theorem dX11_swap_93 : decode cX11_swap 93 = .ok (.iload_n 1, 1) := by decide +kernel
theorem dX11_swap_94 : decode cX11_swap 94 = .ok (.ireturn, 1) := by decide +kernel
theorem dX11_setsDiets_0 : decode cX11_setsDiets 0 = .ok (.iconst 0, 1) := by decide +kernel
theorem dX11_setsDiets_1 : decode cX11_setsDiets 1 = .ok (.istore_n 2, 1) := by decide +kernel
theorem dX11_setsDiets_2 : decode cX11_setsDiets 2 = .ok (.iload_n 2, 1) := by decide +kernel
theorem dX11_setsDiets_3 : decode cX11_setsDiets 3 = .ok (.aload_n 0, 1) := by decide +kernel
theorem dX11_setsDiets_4 : decode cX11_setsDiets 4 = .ok (.invokevirtual 68, 3) := by decide +kernel
theorem dX11_setsDiets_7 : decode cX11_setsDiets 7 = .ok (.if_icmp .ge 32, 3) := by decide +kernel
theorem dX11_setsDiets_10 : decode cX11_setsDiets 10 = .ok (.aload_n 0, 1) := by decide +kernel
theorem dX11_setsDiets_11 : decode cX11_setsDiets 11 = .ok (.getfield 13, 3) := by decide +kernel
theorem dX11_setsDiets_14 : decode cX11_setsDiets 14 = .ok (.iload_n 2, 1) := by decide +kernel
theorem dX11_setsDiets_15 : decode cX11_setsDiets 15 = .ok (.iconst 2, 1) := by decide +kernel
theorem dX11_setsDiets_16 : decode cX11_setsDiets 16 = .ok (.invokestatic 55, 3) := by decide +kernel
theorem dX11_setsDiets_19 : decode cX11_setsDiets 19 = .ok (.iload_n 1, 1) := by decide +kernel
theorem dX11_setsDiets_20 : decode cX11_setsDiets 20 = .ok (.iload_n 2, 1) := by decide +kernel
theorem dX11_setsDiets_21 : decode cX11_setsDiets 21 = .ok (.invokestatic 83, 3) := by decide +kernel
theorem dX11_setsDiets_24 : decode cX11_setsDiets 24 = .ok (.ifCond .eq 7, 3) := by decide +kernel
theorem dX11_setsDiets_27 : decode cX11_setsDiets 27 = .ok (.iconst 0, 1) := by decide +kernel
theorem dX11_setsDiets_28 : decode cX11_setsDiets 28 = .ok (.goto 4, 3) := by decide +kernel
theorem dX11_setsDiets_31 : decode cX11_setsDiets 31 = .ok (.iconst 1, 1) := by decide +kernel
theorem dX11_setsDiets_32 : decode cX11_setsDiets 32 = .ok (.iastore, 1) := by decide +kernel
theorem dX11_setsDiets_33 : decode cX11_setsDiets 33 = .ok (.iinc 2 1, 3) := by decide +kernel
theorem dX11_setsDiets_36 : decode cX11_setsDiets 36 = .ok (.goto (-34), 3) := by decide +kernel
theorem dX11_setsDiets_39 : decode cX11_setsDiets 39 = .ok (.return_, 1) := by decide +kernel
theorem dX11_dietOnes_0 : decode cX11_dietOnes 0 = .ok (.iconst 0, 1) := by decide +kernel
theorem dX11_dietOnes_1 : decode cX11_dietOnes 1 = .ok (.istore_n 1, 1) := by decide +kernel
theorem dX11_dietOnes_2 : decode cX11_dietOnes 2 = .ok (.iconst 0, 1) := by decide +kernel
theorem dX11_dietOnes_3 : decode cX11_dietOnes 3 = .ok (.istore_n 2, 1) := by decide +kernel
theorem dX11_dietOnes_4 : decode cX11_dietOnes 4 = .ok (.iload_n 2, 1) := by decide +kernel
theorem dX11_dietOnes_5 : decode cX11_dietOnes 5 = .ok (.aload_n 0, 1) := by decide +kernel
theorem dX11_dietOnes_6 : decode cX11_dietOnes 6 = .ok (.invokevirtual 68, 3) := by decide +kernel
theorem dX11_dietOnes_9 : decode cX11_dietOnes 9 = .ok (.if_icmp .ge 27, 3) := by decide +kernel
theorem dX11_dietOnes_12 : decode cX11_dietOnes 12 = .ok (.iload_n 1, 1) := by decide +kernel
theorem dX11_dietOnes_13 : decode cX11_dietOnes 13 = .ok (.aload_n 0, 1) := by decide +kernel
theorem dX11_dietOnes_14 : decode cX11_dietOnes 14 = .ok (.iload_n 2, 1) := by decide +kernel
theorem dX11_dietOnes_15 : decode cX11_dietOnes 15 = .ok (.invokevirtual 250, 3) := by decide +kernel
theorem dX11_dietOnes_18 : decode cX11_dietOnes 18 = .ok (.ifCond .eq 9, 3) := by decide +kernel
theorem dX11_dietOnes_21 : decode cX11_dietOnes 21 = .ok (.iconst 1, 1) := by decide +kernel
theorem dX11_dietOnes_22 : decode cX11_dietOnes 22 = .ok (.iload_n 2, 1) := by decide +kernel
theorem dX11_dietOnes_23 : decode cX11_dietOnes 23 = .ok (.ishl, 1) := by decide +kernel
theorem dX11_dietOnes_24 : decode cX11_dietOnes 24 = .ok (.goto 4, 3) := by decide +kernel
theorem dX11_dietOnes_27 : decode cX11_dietOnes 27 = .ok (.iconst 0, 1) := by decide +kernel
theorem dX11_dietOnes_28 : decode cX11_dietOnes 28 = .ok (.ior, 1) := by decide +kernel
theorem dX11_dietOnes_29 : decode cX11_dietOnes 29 = .ok (.istore_n 1, 1) := by decide +kernel
theorem dX11_dietOnes_30 : decode cX11_dietOnes 30 = .ok (.iinc 2 1, 3) := by decide +kernel
theorem dX11_dietOnes_33 : decode cX11_dietOnes 33 = .ok (.goto (-29), 3) := by decide +kernel
theorem dX11_dietOnes_36 : decode cX11_dietOnes 36 = .ok (.iload_n 1, 1) := by decide +kernel
theorem dX11_dietOnes_37 : decode cX11_dietOnes 37 = .ok (.ireturn, 1) := by decide +kernel
theorem dX11_fewest_0 : decode cX11_fewest 0 = .ok (.aload_n 0, 1) := by decide +kernel
theorem dX11_fewest_1 : decode cX11_fewest 1 = .ok (.iconst 0, 1) := by decide +kernel
theorem dX11_fewest_2 : decode cX11_fewest 2 = .ok (.putfield 3, 3) := by decide +kernel
theorem dX11_fewest_5 : decode cX11_fewest 5 = .ok (.aload_n 0, 1) := by decide +kernel
theorem dX11_fewest_6 : decode cX11_fewest 6 = .ok (.aload_n 0, 1) := by decide +kernel
theorem dX11_fewest_7 : decode cX11_fewest 7 = .ok (.iload_n 1, 1) := by decide +kernel
theorem dX11_fewest_8 : decode cX11_fewest 8 = .ok (.invokevirtual 283, 3) := by decide +kernel
theorem dX11_fewest_11 : decode cX11_fewest 11 = .ok (.iconst 1, 1) := by decide +kernel
theorem dX11_fewest_12 : decode cX11_fewest 12 = .ok (.invokevirtual 240, 3) := by decide +kernel
theorem dX11_fewest_15 : decode cX11_fewest 15 = .ok (.ifCond .ne 26, 3) := by decide +kernel
theorem dX11_fewest_18 : decode cX11_fewest 18 = .ok (.aload_n 0, 1) := by decide +kernel
theorem dX11_fewest_19 : decode cX11_fewest 19 = .ok (.iload_n 2, 1) := by decide +kernel
theorem dX11_fewest_20 : decode cX11_fewest 20 = .ok (.iconst 0, 1) := by decide +kernel
theorem dX11_fewest_21 : decode cX11_fewest 21 = .ok (.bipush 24, 2) := by decide +kernel
theorem dX11_fewest_23 : decode cX11_fewest 23 = .ok (.invokestatic 72, 3) := by decide +kernel
theorem dX11_fewest_26 : decode cX11_fewest 26 = .ok (.ifCond .ne 7, 3) := by decide +kernel
theorem dX11_fewest_29 : decode cX11_fewest 29 = .ok (.iconst 1, 1) := by decide +kernel
theorem dX11_fewest_30 : decode cX11_fewest 30 = .ok (.goto 4, 3) := by decide +kernel
theorem dX11_fewest_33 : decode cX11_fewest 33 = .ok (.iconst 0, 1) := by decide +kernel
theorem dX11_fewest_34 : decode cX11_fewest 34 = .ok (.iconst 2, 1) := by decide +kernel
theorem dX11_fewest_35 : decode cX11_fewest 35 = .ok (.invokevirtual 240, 3) := by decide +kernel
theorem dX11_fewest_38 : decode cX11_fewest 38 = .ok (.ifCond .eq 5, 3) := by decide +kernel
theorem dX11_fewest_41 : decode cX11_fewest 41 = .ok (.iconst 0, 1) := by decide +kernel
theorem dX11_fewest_42 : decode cX11_fewest 42 = .ok (.ireturn, 1) := by decide +kernel
theorem dX11_fewest_43 : decode cX11_fewest 43 = .ok (.iconst (-1), 1) := by decide +kernel
theorem dX11_fewest_44 : decode cX11_fewest 44 = .ok (.istore_n 3, 1) := by decide +kernel
theorem dX11_fewest_45 : decode cX11_fewest 45 = .ok (.bipush 9, 2) := by decide +kernel
theorem dX11_fewest_47 : decode cX11_fewest 47 = .ok (.istore 4, 2) := by decide +kernel
theorem dX11_fewest_49 : decode cX11_fewest 49 = .ok (.aload_n 0, 1) := by decide +kernel
theorem dX11_fewest_50 : decode cX11_fewest 50 = .ok (.invokevirtual 359, 3) := by decide +kernel
theorem dX11_fewest_53 : decode cX11_fewest 53 = .ok (.istore 5, 2) := by decide +kernel
theorem dX11_fewest_55 : decode cX11_fewest 55 = .ok (.iconst 0, 1) := by decide +kernel
theorem dX11_fewest_56 : decode cX11_fewest 56 = .ok (.istore 6, 2) := by decide +kernel
theorem dX11_fewest_58 : decode cX11_fewest 58 = .ok (.iload 6, 2) := by decide +kernel
theorem dX11_fewest_60 : decode cX11_fewest 60 = .ok (.iconst 1, 1) := by decide +kernel
theorem dX11_fewest_61 : decode cX11_fewest 61 = .ok (.aload_n 0, 1) := by decide +kernel
theorem dX11_fewest_62 : decode cX11_fewest 62 = .ok (.invokevirtual 68, 3) := by decide +kernel
theorem dX11_fewest_65 : decode cX11_fewest 65 = .ok (.ishl, 1) := by decide +kernel
theorem dX11_fewest_66 : decode cX11_fewest 66 = .ok (.if_icmp .ge 73, 3) := by decide +kernel
theorem dX11_fewest_69 : decode cX11_fewest 69 = .ok (.iload 6, 2) := by decide +kernel
theorem dX11_fewest_71 : decode cX11_fewest 71 = .ok (.invokestatic 362, 3) := by decide +kernel
theorem dX11_fewest_74 : decode cX11_fewest 74 = .ok (.iload 4, 2) := by decide +kernel
theorem dX11_fewest_76 : decode cX11_fewest 76 = .ok (.if_icmp .lt 6, 3) := by decide +kernel
theorem dX11_fewest_79 : decode cX11_fewest 79 = .ok (.goto 54, 3) := by decide +kernel
theorem dX11_fewest_82 : decode cX11_fewest 82 = .ok (.aload_n 0, 1) := by decide +kernel
theorem dX11_fewest_83 : decode cX11_fewest 83 = .ok (.iload 6, 2) := by decide +kernel
theorem dX11_fewest_85 : decode cX11_fewest 85 = .ok (.invokevirtual 367, 3) := by decide +kernel
theorem dX11_fewest_88 : decode cX11_fewest 88 = .ok (.aload_n 0, 1) := by decide +kernel
theorem dX11_fewest_89 : decode cX11_fewest 89 = .ok (.iload_n 1, 1) := by decide +kernel
theorem dX11_fewest_90 : decode cX11_fewest 90 = .ok (.iload_n 2, 1) := by decide +kernel
theorem dX11_fewest_91 : decode cX11_fewest 91 = .ok (.invokevirtual 356, 3) := by decide +kernel
theorem dX11_fewest_94 : decode cX11_fewest 94 = .ok (.ifCond .ne 7, 3) := by decide +kernel
theorem dX11_fewest_97 : decode cX11_fewest 97 = .ok (.iconst 1, 1) := by decide +kernel
theorem dX11_fewest_98 : decode cX11_fewest 98 = .ok (.goto 4, 3) := by decide +kernel
theorem dX11_fewest_101 : decode cX11_fewest 101 = .ok (.iconst 0, 1) := by decide +kernel
theorem dX11_fewest_102 : decode cX11_fewest 102 = .ok (.istore 7, 2) := by decide +kernel
theorem dX11_fewest_104 : decode cX11_fewest 104 = .ok (.iload 7, 2) := by decide +kernel
theorem dX11_fewest_106 : decode cX11_fewest 106 = .ok (.ifCond .eq 8, 3) := by decide +kernel
theorem dX11_fewest_109 : decode cX11_fewest 109 = .ok (.iload 6, 2) := by decide +kernel
theorem dX11_fewest_111 : decode cX11_fewest 111 = .ok (.goto 4, 3) := by decide +kernel
theorem dX11_fewest_114 : decode cX11_fewest 114 = .ok (.iload_n 3, 1) := by decide +kernel
theorem dX11_fewest_115 : decode cX11_fewest 115 = .ok (.istore_n 3, 1) := by decide +kernel
theorem dX11_fewest_116 : decode cX11_fewest 116 = .ok (.iload 7, 2) := by decide +kernel
theorem dX11_fewest_118 : decode cX11_fewest 118 = .ok (.ifCond .eq 11, 3) := by decide +kernel
theorem dX11_fewest_121 : decode cX11_fewest 121 = .ok (.iload 6, 2) := by decide +kernel
theorem dX11_fewest_123 : decode cX11_fewest 123 = .ok (.invokestatic 362, 3) := by decide +kernel
theorem dX11_fewest_126 : decode cX11_fewest 126 = .ok (.goto 5, 3) := by decide +kernel
theorem dX11_fewest_129 : decode cX11_fewest 129 = .ok (.iload 4, 2) := by decide +kernel
theorem dX11_fewest_131 : decode cX11_fewest 131 = .ok (.istore 4, 2) := by decide +kernel
theorem dX11_fewest_133 : decode cX11_fewest 133 = .ok (.iinc 6 1, 3) := by decide +kernel
theorem dX11_fewest_136 : decode cX11_fewest 136 = .ok (.goto (-78), 3) := by decide +kernel
theorem dX11_fewest_139 : decode cX11_fewest 139 = .ok (.aload_n 0, 1) := by decide +kernel
theorem dX11_fewest_140 : decode cX11_fewest 140 = .ok (.iload 5, 2) := by decide +kernel
theorem dX11_fewest_142 : decode cX11_fewest 142 = .ok (.iconst (-1), 1) := by decide +kernel
theorem dX11_fewest_143 : decode cX11_fewest 143 = .ok (.ixor, 1) := by decide +kernel
theorem dX11_fewest_144 : decode cX11_fewest 144 = .ok (.invokevirtual 367, 3) := by decide +kernel
theorem dX11_fewest_147 : decode cX11_fewest 147 = .ok (.iload_n 3, 1) := by decide +kernel
theorem dX11_fewest_148 : decode cX11_fewest 148 = .ok (.ireturn, 1) := by decide +kernel
theorem dX11_isTold_0 : decode cX11_isTold 0 = .ok (.aload_n 0, 1) := by decide +kernel
theorem dX11_isTold_1 : decode cX11_isTold 1 = .ok (.getfield 94, 3) := by decide +kernel
theorem dX11_isTold_4 : decode cX11_isTold 4 = .ok (.iconst 3, 1) := by decide +kernel
theorem dX11_isTold_5 : decode cX11_isTold 5 = .ok (.irem, 1) := by decide +kernel
theorem dX11_isTold_6 : decode cX11_isTold 6 = .ok (.ifCond .ne 16, 3) := by decide +kernel
theorem dX11_isTold_9 : decode cX11_isTold 9 = .ok (.aload_n 0, 1) := by decide +kernel
theorem dX11_isTold_10 : decode cX11_isTold 10 = .ok (.getfield 94, 3) := by decide +kernel
theorem dX11_isTold_13 : decode cX11_isTold 13 = .ok (.bipush 12, 2) := by decide +kernel
theorem dX11_isTold_15 : decode cX11_isTold 15 = .ok (.if_icmp .gt 7, 3) := by decide +kernel
theorem dX11_isTold_18 : decode cX11_isTold 18 = .ok (.iconst 1, 1) := by decide +kernel
theorem dX11_isTold_19 : decode cX11_isTold 19 = .ok (.goto 4, 3) := by decide +kernel
theorem dX11_isTold_22 : decode cX11_isTold 22 = .ok (.iconst 0, 1) := by decide +kernel
theorem dX11_isTold_23 : decode cX11_isTold 23 = .ok (.istore_n 1, 1) := by decide +kernel
theorem dX11_isTold_24 : decode cX11_isTold 24 = .ok (.iconst 0, 1) := by decide +kernel
theorem dX11_isTold_25 : decode cX11_isTold 25 = .ok (.istore_n 2, 1) := by decide +kernel
theorem dX11_isTold_26 : decode cX11_isTold 26 = .ok (.iload_n 2, 1) := by decide +kernel
theorem dX11_isTold_27 : decode cX11_isTold 27 = .ok (.aload_n 0, 1) := by decide +kernel
theorem dX11_isTold_28 : decode cX11_isTold 28 = .ok (.getfield 94, 3) := by decide +kernel
theorem dX11_isTold_31 : decode cX11_isTold 31 = .ok (.if_icmp .ge 49, 3) := by decide +kernel
theorem dX11_isTold_34 : decode cX11_isTold 34 = .ok (.iload_n 1, 1) := by decide +kernel
theorem dX11_isTold_35 : decode cX11_isTold 35 = .ok (.ifCond .eq 45, 3) := by decide +kernel
theorem dX11_isTold_38 : decode cX11_isTold 38 = .ok (.aload_n 0, 1) := by decide +kernel
theorem dX11_isTold_39 : decode cX11_isTold 39 = .ok (.aload_n 0, 1) := by decide +kernel
theorem dX11_isTold_40 : decode cX11_isTold 40 = .ok (.getfield 29, 3) := by decide +kernel
theorem dX11_isTold_43 : decode cX11_isTold 43 = .ok (.iload_n 2, 1) := by decide +kernel
theorem dX11_isTold_44 : decode cX11_isTold 44 = .ok (.baload, 1) := by decide +kernel
theorem dX11_isTold_45 : decode cX11_isTold 45 = .ok (.invokevirtual 283, 3) := by decide +kernel
theorem dX11_isTold_48 : decode cX11_isTold 48 = .ok (.ifCond .ne 24, 3) := by decide +kernel
theorem dX11_isTold_51 : decode cX11_isTold 51 = .ok (.aload_n 0, 1) := by decide +kernel
theorem dX11_isTold_52 : decode cX11_isTold 52 = .ok (.getfield 29, 3) := by decide +kernel
theorem dX11_isTold_55 : decode cX11_isTold 55 = .ok (.iload_n 2, 1) := by decide +kernel
theorem dX11_isTold_56 : decode cX11_isTold 56 = .ok (.iconst 1, 1) := by decide +kernel
theorem dX11_isTold_57 : decode cX11_isTold 57 = .ok (.iadd, 1) := by decide +kernel
theorem dX11_isTold_58 : decode cX11_isTold 58 = .ok (.baload, 1) := by decide +kernel
theorem dX11_isTold_59 : decode cX11_isTold 59 = .ok (.iconst 0, 1) := by decide +kernel
theorem dX11_isTold_60 : decode cX11_isTold 60 = .ok (.bipush 24, 2) := by decide +kernel
theorem dX11_isTold_62 : decode cX11_isTold 62 = .ok (.invokestatic 72, 3) := by decide +kernel
theorem dX11_isTold_65 : decode cX11_isTold 65 = .ok (.ifCond .eq 7, 3) := by decide +kernel
theorem dX11_isTold_68 : decode cX11_isTold 68 = .ok (.iconst 1, 1) := by decide +kernel
theorem dX11_isTold_69 : decode cX11_isTold 69 = .ok (.goto 4, 3) := by decide +kernel
theorem dX11_isTold_72 : decode cX11_isTold 72 = .ok (.iconst 0, 1) := by decide +kernel
theorem dX11_isTold_73 : decode cX11_isTold 73 = .ok (.istore_n 1, 1) := by decide +kernel
theorem dX11_isTold_74 : decode cX11_isTold 74 = .ok (.iinc 2 3, 3) := by decide +kernel
theorem dX11_isTold_77 : decode cX11_isTold 77 = .ok (.goto (-51), 3) := by decide +kernel
theorem dX11_isTold_80 : decode cX11_isTold 80 = .ok (.iload_n 1, 1) := by decide +kernel
theorem dX11_isTold_81 : decode cX11_isTold 81 = .ok (.ireturn, 1) := by decide +kernel
theorem dX11_fits_0 : decode cX11_fits 0 = .ok (.iload_n 1, 1) := by decide +kernel
theorem dX11_fits_1 : decode cX11_fits 1 = .ok (.invokestatic 362, 3) := by decide +kernel
theorem dX11_fits_4 : decode cX11_fits 4 = .ok (.iconst 2, 1) := by decide +kernel
theorem dX11_fits_5 : decode cX11_fits 5 = .ok (.if_icmp .le 5, 3) := by decide +kernel
theorem dX11_fits_8 : decode cX11_fits 8 = .ok (.iconst 0, 1) := by decide +kernel
theorem dX11_fits_9 : decode cX11_fits 9 = .ok (.ireturn, 1) := by decide +kernel
theorem dX11_fits_10 : decode cX11_fits 10 = .ok (.aload_n 0, 1) := by decide +kernel
theorem dX11_fits_11 : decode cX11_fits 11 = .ok (.iload_n 1, 1) := by decide +kernel
theorem dX11_fits_12 : decode cX11_fits 12 = .ok (.putfield 304, 3) := by decide +kernel
theorem dX11_fits_15 : decode cX11_fits 15 = .ok (.iconst 1, 1) := by decide +kernel
theorem dX11_fits_16 : decode cX11_fits 16 = .ok (.istore_n 2, 1) := by decide +kernel
theorem dX11_fits_17 : decode cX11_fits 17 = .ok (.iconst 0, 1) := by decide +kernel
theorem dX11_fits_18 : decode cX11_fits 18 = .ok (.istore_n 3, 1) := by decide +kernel
theorem dX11_fits_19 : decode cX11_fits 19 = .ok (.iload_n 3, 1) := by decide +kernel
theorem dX11_fits_20 : decode cX11_fits 20 = .ok (.aload_n 0, 1) := by decide +kernel
theorem dX11_fits_21 : decode cX11_fits 21 = .ok (.getfield 94, 3) := by decide +kernel
theorem dX11_fits_24 : decode cX11_fits 24 = .ok (.if_icmp .ge 52, 3) := by decide +kernel
theorem dX11_fits_27 : decode cX11_fits 27 = .ok (.iload_n 2, 1) := by decide +kernel
theorem dX11_fits_28 : decode cX11_fits 28 = .ok (.ifCond .eq 48, 3) := by decide +kernel
theorem dX11_fits_31 : decode cX11_fits 31 = .ok (.aload_n 0, 1) := by decide +kernel
theorem dX11_fits_32 : decode cX11_fits 32 = .ok (.aload_n 0, 1) := by decide +kernel
theorem dX11_fits_33 : decode cX11_fits 33 = .ok (.getfield 29, 3) := by decide +kernel
theorem dX11_fits_36 : decode cX11_fits 36 = .ok (.iload_n 3, 1) := by decide +kernel
theorem dX11_fits_37 : decode cX11_fits 37 = .ok (.baload, 1) := by decide +kernel
theorem dX11_fits_38 : decode cX11_fits 38 = .ok (.aload_n 0, 1) := by decide +kernel
theorem dX11_fits_39 : decode cX11_fits 39 = .ok (.getfield 29, 3) := by decide +kernel
theorem dX11_fits_42 : decode cX11_fits 42 = .ok (.iload_n 3, 1) := by decide +kernel
theorem dX11_fits_43 : decode cX11_fits 43 = .ok (.iconst 1, 1) := by decide +kernel
theorem dX11_fits_44 : decode cX11_fits 44 = .ok (.iadd, 1) := by decide +kernel
theorem dX11_fits_45 : decode cX11_fits 45 = .ok (.baload, 1) := by decide +kernel
theorem dX11_fits_46 : decode cX11_fits 46 = .ok (.invokevirtual 356, 3) := by decide +kernel
theorem dX11_fits_49 : decode cX11_fits 49 = .ok (.aload_n 0, 1) := by decide +kernel
theorem dX11_fits_50 : decode cX11_fits 50 = .ok (.getfield 29, 3) := by decide +kernel
theorem dX11_fits_53 : decode cX11_fits 53 = .ok (.iload_n 3, 1) := by decide +kernel
theorem dX11_fits_54 : decode cX11_fits 54 = .ok (.iconst 2, 1) := by decide +kernel
theorem dX11_fits_55 : decode cX11_fits 55 = .ok (.iadd, 1) := by decide +kernel
theorem dX11_fits_56 : decode cX11_fits 56 = .ok (.baload, 1) := by decide +kernel
theorem dX11_fits_57 : decode cX11_fits 57 = .ok (.sipush 255, 3) := by decide +kernel
theorem dX11_fits_60 : decode cX11_fits 60 = .ok (.iand, 1) := by decide +kernel
theorem dX11_fits_61 : decode cX11_fits 61 = .ok (.if_icmp .ne 7, 3) := by decide +kernel
theorem dX11_fits_64 : decode cX11_fits 64 = .ok (.iconst 1, 1) := by decide +kernel
theorem dX11_fits_65 : decode cX11_fits 65 = .ok (.goto 4, 3) := by decide +kernel
theorem dX11_fits_68 : decode cX11_fits 68 = .ok (.iconst 0, 1) := by decide +kernel
theorem dX11_fits_69 : decode cX11_fits 69 = .ok (.istore_n 2, 1) := by decide +kernel
theorem dX11_fits_70 : decode cX11_fits 70 = .ok (.iinc 3 3, 3) := by decide +kernel
theorem dX11_fits_73 : decode cX11_fits 73 = .ok (.goto (-54), 3) := by decide +kernel
theorem dX11_fits_76 : decode cX11_fits 76 = .ok (.aload_n 0, 1) := by decide +kernel
theorem dX11_fits_77 : decode cX11_fits 77 = .ok (.iconst 0, 1) := by decide +kernel
theorem dX11_fits_78 : decode cX11_fits 78 = .ok (.putfield 304, 3) := by decide +kernel
theorem dX11_fits_81 : decode cX11_fits 81 = .ok (.iload_n 2, 1) := by decide +kernel
theorem dX11_fits_82 : decode cX11_fits 82 = .ok (.ireturn, 1) := by decide +kernel
theorem dX11_bribes_0 : decode cX11_bribes 0 = .ok (.aload_n 0, 1) := by decide +kernel
theorem dX11_bribes_1 : decode cX11_bribes 1 = .ok (.invokevirtual 229, 3) := by decide +kernel
theorem dX11_bribes_4 : decode cX11_bribes 4 = .ok (.aload_n 0, 1) := by decide +kernel
theorem dX11_bribes_5 : decode cX11_bribes 5 = .ok (.aload_n 0, 1) := by decide +kernel
theorem dX11_bribes_6 : decode cX11_bribes 6 = .ok (.invokevirtual 370, 3) := by decide +kernel
theorem dX11_bribes_9 : decode cX11_bribes 9 = .ok (.ifCond .ne 7, 3) := by decide +kernel
theorem dX11_bribes_12 : decode cX11_bribes 12 = .ok (.iconst 1, 1) := by decide +kernel
theorem dX11_bribes_13 : decode cX11_bribes 13 = .ok (.goto 4, 3) := by decide +kernel
theorem dX11_bribes_16 : decode cX11_bribes 16 = .ok (.iconst 0, 1) := by decide +kernel
theorem dX11_bribes_17 : decode cX11_bribes 17 = .ok (.iconst 1, 1) := by decide +kernel
theorem dX11_bribes_18 : decode cX11_bribes 18 = .ok (.invokevirtual 240, 3) := by decide +kernel
theorem dX11_bribes_21 : decode cX11_bribes 21 = .ok (.ifCond .eq 5, 3) := by decide +kernel
theorem dX11_bribes_24 : decode cX11_bribes 24 = .ok (.iconst 0, 1) := by decide +kernel
theorem dX11_bribes_25 : decode cX11_bribes 25 = .ok (.ireturn, 1) := by decide +kernel
theorem dX11_bribes_26 : decode cX11_bribes 26 = .ok (.iconst 0, 1) := by decide +kernel
theorem dX11_bribes_27 : decode cX11_bribes 27 = .ok (.istore_n 2, 1) := by decide +kernel
theorem dX11_bribes_28 : decode cX11_bribes 28 = .ok (.iconst 1, 1) := by decide +kernel
theorem dX11_bribes_29 : decode cX11_bribes 29 = .ok (.aload_n 0, 1) := by decide +kernel
theorem dX11_bribes_30 : decode cX11_bribes 30 = .ok (.invokevirtual 68, 3) := by decide +kernel
theorem dX11_bribes_33 : decode cX11_bribes 33 = .ok (.ishl, 1) := by decide +kernel
theorem dX11_bribes_34 : decode cX11_bribes 34 = .ok (.iconst 1, 1) := by decide +kernel
theorem dX11_bribes_35 : decode cX11_bribes 35 = .ok (.isub, 1) := by decide +kernel
theorem dX11_bribes_36 : decode cX11_bribes 36 = .ok (.istore_n 3, 1) := by decide +kernel
theorem dX11_bribes_37 : decode cX11_bribes 37 = .ok (.iconst 0, 1) := by decide +kernel
theorem dX11_bribes_38 : decode cX11_bribes 38 = .ok (.istore 4, 2) := by decide +kernel
theorem dX11_bribes_40 : decode cX11_bribes 40 = .ok (.iload 4, 2) := by decide +kernel
theorem dX11_bribes_42 : decode cX11_bribes 42 = .ok (.iconst 1, 1) := by decide +kernel
theorem dX11_bribes_43 : decode cX11_bribes 43 = .ok (.aload_n 0, 1) := by decide +kernel
theorem dX11_bribes_44 : decode cX11_bribes 44 = .ok (.invokevirtual 68, 3) := by decide +kernel
theorem dX11_bribes_47 : decode cX11_bribes 47 = .ok (.ishl, 1) := by decide +kernel
theorem dX11_bribes_48 : decode cX11_bribes 48 = .ok (.if_icmp .ge 29, 3) := by decide +kernel
theorem dX11_bribes_51 : decode cX11_bribes 51 = .ok (.aload_n 0, 1) := by decide +kernel
theorem dX11_bribes_52 : decode cX11_bribes 52 = .ok (.iload 4, 2) := by decide +kernel
theorem dX11_bribes_54 : decode cX11_bribes 54 = .ok (.invokevirtual 373, 3) := by decide +kernel
theorem dX11_bribes_57 : decode cX11_bribes 57 = .ok (.ifCond .ne 6, 3) := by decide +kernel
theorem dX11_bribes_60 : decode cX11_bribes 60 = .ok (.goto 11, 3) := by decide +kernel
theorem dX11_bribes_63 : decode cX11_bribes 63 = .ok (.iinc 2 1, 3) := by decide +kernel
theorem dX11_bribes_66 : decode cX11_bribes 66 = .ok (.iload_n 3, 1) := by decide +kernel
theorem dX11_bribes_67 : decode cX11_bribes 67 = .ok (.iload 4, 2) := by decide +kernel
theorem dX11_bribes_69 : decode cX11_bribes 69 = .ok (.iand, 1) := by decide +kernel
theorem dX11_bribes_70 : decode cX11_bribes 70 = .ok (.istore_n 3, 1) := by decide +kernel
theorem dX11_bribes_71 : decode cX11_bribes 71 = .ok (.iinc 4 1, 3) := by decide +kernel
theorem dX11_bribes_74 : decode cX11_bribes 74 = .ok (.goto (-34), 3) := by decide +kernel
theorem dX11_bribes_77 : decode cX11_bribes 77 = .ok (.iload_n 1, 1) := by decide +kernel
theorem dX11_bribes_78 : decode cX11_bribes 78 = .ok (.ifCond .ne 7, 3) := by decide +kernel
theorem dX11_bribes_81 : decode cX11_bribes 81 = .ok (.iload_n 2, 1) := by decide +kernel
theorem dX11_bribes_82 : decode cX11_bribes 82 = .ok (.goto 12, 3) := by decide +kernel
theorem dX11_bribes_85 : decode cX11_bribes 85 = .ok (.iload_n 2, 1) := by decide +kernel
theorem dX11_bribes_86 : decode cX11_bribes 86 = .ok (.ifCond .ne 7, 3) := by decide +kernel
theorem dX11_bribes_89 : decode cX11_bribes 89 = .ok (.iconst 0, 1) := by decide +kernel
theorem dX11_bribes_90 : decode cX11_bribes 90 = .ok (.goto 4, 3) := by decide +kernel
theorem dX11_bribes_93 : decode cX11_bribes 93 = .ok (.iload_n 3, 1) := by decide +kernel
theorem dX11_bribes_94 : decode cX11_bribes 94 = .ok (.ireturn, 1) := by decide +kernel
theorem dX11_greatestPart_0 : decode cX11_greatestPart 0 = .ok (.iconst 0, 1) := by decide +kernel
theorem dX11_greatestPart_1 : decode cX11_greatestPart 1 = .ok (.istore_n 3, 1) := by decide +kernel
theorem dX11_greatestPart_2 : decode cX11_greatestPart 2 = .ok (.iload_n 3, 1) := by decide +kernel
theorem dX11_greatestPart_3 : decode cX11_greatestPart 3 = .ok (.sipush 200, 3) := by decide +kernel
theorem dX11_greatestPart_6 : decode cX11_greatestPart 6 = .ok (.if_icmp .gt 16, 3) := by decide +kernel
theorem dX11_greatestPart_9 : decode cX11_greatestPart 9 = .ok (.aload_n 0, 1) := by decide +kernel
theorem dX11_greatestPart_10 : decode cX11_greatestPart 10 = .ok (.getfield 45, 3) := by decide +kernel
theorem dX11_greatestPart_13 : decode cX11_greatestPart 13 = .ok (.iload_n 3, 1) := by decide +kernel
theorem dX11_greatestPart_14 : decode cX11_greatestPart 14 = .ok (.iconst 0, 1) := by decide +kernel
theorem dX11_greatestPart_15 : decode cX11_greatestPart 15 = .ok (.iastore, 1) := by decide +kernel
theorem dX11_greatestPart_16 : decode cX11_greatestPart 16 = .ok (.iinc 3 1, 3) := by decide +kernel
theorem dX11_greatestPart_19 : decode cX11_greatestPart 19 = .ok (.goto (-17), 3) := by decide +kernel
theorem dX11_greatestPart_22 : decode cX11_greatestPart 22 = .ok (.iconst 0, 1) := by decide +kernel
theorem dX11_greatestPart_23 : decode cX11_greatestPart 23 = .ok (.istore_n 3, 1) := by decide +kernel
theorem dX11_greatestPart_24 : decode cX11_greatestPart 24 = .ok (.iconst 0, 1) := by decide +kernel
theorem dX11_greatestPart_25 : decode cX11_greatestPart 25 = .ok (.istore 4, 2) := by decide +kernel
theorem dX11_greatestPart_27 : decode cX11_greatestPart 27 = .ok (.iload 4, 2) := by decide +kernel
theorem dX11_greatestPart_29 : decode cX11_greatestPart 29 = .ok (.iconst 1, 1) := by decide +kernel
theorem dX11_greatestPart_30 : decode cX11_greatestPart 30 = .ok (.aload_n 0, 1) := by decide +kernel
theorem dX11_greatestPart_31 : decode cX11_greatestPart 31 = .ok (.invokevirtual 68, 3) := by decide +kernel
theorem dX11_greatestPart_34 : decode cX11_greatestPart 34 = .ok (.ishl, 1) := by decide +kernel
theorem dX11_greatestPart_35 : decode cX11_greatestPart 35 = .ok (.if_icmp .ge 63, 3) := by decide +kernel
theorem dX11_greatestPart_38 : decode cX11_greatestPart 38 = .ok (.aload_n 0, 1) := by decide +kernel
theorem dX11_greatestPart_39 : decode cX11_greatestPart 39 = .ok (.iload 4, 2) := by decide +kernel
theorem dX11_greatestPart_41 : decode cX11_greatestPart 41 = .ok (.invokevirtual 373, 3) := by decide +kernel
theorem dX11_greatestPart_44 : decode cX11_greatestPart 44 = .ok (.ifCond .ne 6, 3) := by decide +kernel
theorem dX11_greatestPart_47 : decode cX11_greatestPart 47 = .ok (.goto 45, 3) := by decide +kernel
theorem dX11_greatestPart_50 : decode cX11_greatestPart 50 = .ok (.aload_n 0, 1) := by decide +kernel
theorem dX11_greatestPart_51 : decode cX11_greatestPart 51 = .ok (.iload 4, 2) := by decide +kernel
theorem dX11_greatestPart_53 : decode cX11_greatestPart 53 = .ok (.putfield 304, 3) := by decide +kernel
theorem dX11_greatestPart_56 : decode cX11_greatestPart 56 = .ok (.aload_n 0, 1) := by decide +kernel
theorem dX11_greatestPart_57 : decode cX11_greatestPart 57 = .ok (.iload_n 1, 1) := by decide +kernel
theorem dX11_greatestPart_58 : decode cX11_greatestPart 58 = .ok (.iload_n 2, 1) := by decide +kernel
theorem dX11_greatestPart_59 : decode cX11_greatestPart 59 = .ok (.invokevirtual 356, 3) := by decide +kernel
theorem dX11_greatestPart_62 : decode cX11_greatestPart 62 = .ok (.istore 5, 2) := by decide +kernel
theorem dX11_greatestPart_64 : decode cX11_greatestPart 64 = .ok (.aload_n 0, 1) := by decide +kernel
theorem dX11_greatestPart_65 : decode cX11_greatestPart 65 = .ok (.iconst 0, 1) := by decide +kernel
theorem dX11_greatestPart_66 : decode cX11_greatestPart 66 = .ok (.putfield 304, 3) := by decide +kernel
theorem dX11_greatestPart_69 : decode cX11_greatestPart 69 = .ok (.aload_n 0, 1) := by decide +kernel
theorem dX11_greatestPart_70 : decode cX11_greatestPart 70 = .ok (.getfield 45, 3) := by decide +kernel
theorem dX11_greatestPart_73 : decode cX11_greatestPart 73 = .ok (.iload 5, 2) := by decide +kernel
theorem dX11_greatestPart_75 : decode cX11_greatestPart 75 = .ok (.dup2, 1) := by decide +kernel
theorem dX11_greatestPart_76 : decode cX11_greatestPart 76 = .ok (.iaload, 1) := by decide +kernel
theorem dX11_greatestPart_77 : decode cX11_greatestPart 77 = .ok (.iconst 1, 1) := by decide +kernel
theorem dX11_greatestPart_78 : decode cX11_greatestPart 78 = .ok (.iadd, 1) := by decide +kernel
theorem dX11_greatestPart_79 : decode cX11_greatestPart 79 = .ok (.iastore, 1) := by decide +kernel
theorem dX11_greatestPart_80 : decode cX11_greatestPart 80 = .ok (.iload_n 3, 1) := by decide +kernel
theorem dX11_greatestPart_81 : decode cX11_greatestPart 81 = .ok (.aload_n 0, 1) := by decide +kernel
theorem dX11_greatestPart_82 : decode cX11_greatestPart 82 = .ok (.getfield 45, 3) := by decide +kernel
theorem dX11_greatestPart_85 : decode cX11_greatestPart 85 = .ok (.iload 5, 2) := by decide +kernel
theorem dX11_greatestPart_87 : decode cX11_greatestPart 87 = .ok (.iaload, 1) := by decide +kernel
theorem dX11_greatestPart_88 : decode cX11_greatestPart 88 = .ok (.invokestatic 253, 3) := by decide +kernel
theorem dX11_greatestPart_91 : decode cX11_greatestPart 91 = .ok (.istore_n 3, 1) := by decide +kernel
theorem dX11_greatestPart_92 : decode cX11_greatestPart 92 = .ok (.iinc 4 1, 3) := by decide +kernel
theorem dX11_greatestPart_95 : decode cX11_greatestPart 95 = .ok (.goto (-68), 3) := by decide +kernel
theorem dX11_greatestPart_98 : decode cX11_greatestPart 98 = .ok (.iload_n 3, 1) := by decide +kernel
theorem dX11_greatestPart_99 : decode cX11_greatestPart 99 = .ok (.ireturn, 1) := by decide +kernel
theorem dX11_howManyFit_0 : decode cX11_howManyFit 0 = .ok (.iconst 0, 1) := by decide +kernel
theorem dX11_howManyFit_1 : decode cX11_howManyFit 1 = .ok (.istore_n 1, 1) := by decide +kernel
theorem dX11_howManyFit_2 : decode cX11_howManyFit 2 = .ok (.iconst 0, 1) := by decide +kernel
theorem dX11_howManyFit_3 : decode cX11_howManyFit 3 = .ok (.istore_n 2, 1) := by decide +kernel
theorem dX11_howManyFit_4 : decode cX11_howManyFit 4 = .ok (.iload_n 2, 1) := by decide +kernel
theorem dX11_howManyFit_5 : decode cX11_howManyFit 5 = .ok (.iconst 1, 1) := by decide +kernel
theorem dX11_howManyFit_6 : decode cX11_howManyFit 6 = .ok (.aload_n 0, 1) := by decide +kernel
theorem dX11_howManyFit_7 : decode cX11_howManyFit 7 = .ok (.invokevirtual 68, 3) := by decide +kernel
theorem dX11_howManyFit_10 : decode cX11_howManyFit 10 = .ok (.ishl, 1) := by decide +kernel
theorem dX11_howManyFit_11 : decode cX11_howManyFit 11 = .ok (.if_icmp .ge 25, 3) := by decide +kernel
theorem dX11_howManyFit_14 : decode cX11_howManyFit 14 = .ok (.iload_n 1, 1) := by decide +kernel
theorem dX11_howManyFit_15 : decode cX11_howManyFit 15 = .ok (.aload_n 0, 1) := by decide +kernel
theorem dX11_howManyFit_16 : decode cX11_howManyFit 16 = .ok (.iload_n 2, 1) := by decide +kernel
theorem dX11_howManyFit_17 : decode cX11_howManyFit 17 = .ok (.invokevirtual 373, 3) := by decide +kernel
theorem dX11_howManyFit_20 : decode cX11_howManyFit 20 = .ok (.ifCond .eq 7, 3) := by decide +kernel
theorem dX11_howManyFit_23 : decode cX11_howManyFit 23 = .ok (.iconst 1, 1) := by decide +kernel
theorem dX11_howManyFit_24 : decode cX11_howManyFit 24 = .ok (.goto 4, 3) := by decide +kernel
theorem dX11_howManyFit_27 : decode cX11_howManyFit 27 = .ok (.iconst 0, 1) := by decide +kernel
theorem dX11_howManyFit_28 : decode cX11_howManyFit 28 = .ok (.iadd, 1) := by decide +kernel
theorem dX11_howManyFit_29 : decode cX11_howManyFit 29 = .ok (.istore_n 1, 1) := by decide +kernel
theorem dX11_howManyFit_30 : decode cX11_howManyFit 30 = .ok (.iinc 2 1, 3) := by decide +kernel
theorem dX11_howManyFit_33 : decode cX11_howManyFit 33 = .ok (.goto (-29), 3) := by decide +kernel
theorem dX11_howManyFit_36 : decode cX11_howManyFit 36 = .ok (.iload_n 1, 1) := by decide +kernel
theorem dX11_howManyFit_37 : decode cX11_howManyFit 37 = .ok (.ireturn, 1) := by decide +kernel
theorem dX11_ask_0 : decode cX11_ask 0 = .ok (.aload_n 0, 1) := by decide +kernel
theorem dX11_ask_1 : decode cX11_ask 1 = .ok (.invokevirtual 229, 3) := by decide +kernel
theorem dX11_ask_4 : decode cX11_ask 4 = .ok (.aload_n 0, 1) := by decide +kernel
theorem dX11_ask_5 : decode cX11_ask 5 = .ok (.aload_n 0, 1) := by decide +kernel
theorem dX11_ask_6 : decode cX11_ask 6 = .ok (.invokevirtual 370, 3) := by decide +kernel
theorem dX11_ask_9 : decode cX11_ask 9 = .ok (.ifCond .eq 13, 3) := by decide +kernel
theorem dX11_ask_12 : decode cX11_ask 12 = .ok (.iload_n 1, 1) := by decide +kernel
theorem dX11_ask_13 : decode cX11_ask 13 = .ok (.iconst 1, 1) := by decide +kernel
theorem dX11_ask_14 : decode cX11_ask 14 = .ok (.bipush 24, 2) := by decide +kernel
theorem dX11_ask_16 : decode cX11_ask 16 = .ok (.invokestatic 72, 3) := by decide +kernel
theorem dX11_ask_19 : decode cX11_ask 19 = .ok (.ifCond .ne 7, 3) := by decide +kernel
theorem dX11_ask_22 : decode cX11_ask 22 = .ok (.iconst 1, 1) := by decide +kernel
theorem dX11_ask_23 : decode cX11_ask 23 = .ok (.goto 4, 3) := by decide +kernel
theorem dX11_ask_26 : decode cX11_ask 26 = .ok (.iconst 0, 1) := by decide +kernel
theorem dX11_ask_27 : decode cX11_ask 27 = .ok (.iconst 1, 1) := by decide +kernel
theorem dX11_ask_28 : decode cX11_ask 28 = .ok (.invokevirtual 240, 3) := by decide +kernel
theorem dX11_ask_31 : decode cX11_ask 31 = .ok (.ifCond .eq 5, 3) := by decide +kernel
theorem dX11_ask_34 : decode cX11_ask 34 = .ok (.iconst 0, 1) := by decide +kernel
theorem dX11_ask_35 : decode cX11_ask 35 = .ok (.ireturn, 1) := by decide +kernel
theorem dX11_ask_36 : decode cX11_ask 36 = .ok (.aload_n 0, 1) := by decide +kernel
theorem dX11_ask_37 : decode cX11_ask 37 = .ok (.invokevirtual 376, 3) := by decide +kernel
theorem dX11_ask_40 : decode cX11_ask 40 = .ok (.iconst 2, 1) := by decide +kernel
theorem dX11_ask_41 : decode cX11_ask 41 = .ok (.if_icmp .ge 5, 3) := by decide +kernel
theorem dX11_ask_44 : decode cX11_ask 44 = .ok (.iconst (-1), 1) := by decide +kernel
theorem dX11_ask_45 : decode cX11_ask 45 = .ok (.ireturn, 1) := by decide +kernel
theorem dX11_ask_46 : decode cX11_ask 46 = .ok (.iconst (-1), 1) := by decide +kernel
theorem dX11_ask_47 : decode cX11_ask 47 = .ok (.istore_n 2, 1) := by decide +kernel
theorem dX11_ask_48 : decode cX11_ask 48 = .ok (.ldc_w 334, 3) := by decide +kernel
theorem dX11_ask_51 : decode cX11_ask 51 = .ok (.istore_n 3, 1) := by decide +kernel
theorem dX11_ask_52 : decode cX11_ask 52 = .ok (.iconst 0, 1) := by decide +kernel
theorem dX11_ask_53 : decode cX11_ask 53 = .ok (.istore 4, 2) := by decide +kernel
theorem dX11_ask_55 : decode cX11_ask 55 = .ok (.iload 4, 2) := by decide +kernel
theorem dX11_ask_57 : decode cX11_ask 57 = .ok (.aload_n 0, 1) := by decide +kernel
theorem dX11_ask_58 : decode cX11_ask 58 = .ok (.invokevirtual 76, 3) := by decide +kernel
theorem dX11_ask_61 : decode cX11_ask 61 = .ok (.if_icmp .ge 38, 3) := by decide +kernel
theorem dX11_ask_64 : decode cX11_ask 64 = .ok (.aload_n 0, 1) := by decide +kernel
theorem dX11_ask_65 : decode cX11_ask 65 = .ok (.iload 4, 2) := by decide +kernel
theorem dX11_ask_67 : decode cX11_ask 67 = .ok (.iload_n 1, 1) := by decide +kernel
theorem dX11_ask_68 : decode cX11_ask 68 = .ok (.invokevirtual 379, 3) := by decide +kernel
theorem dX11_ask_71 : decode cX11_ask 71 = .ok (.istore 5, 2) := by decide +kernel
theorem dX11_ask_73 : decode cX11_ask 73 = .ok (.iload 5, 2) := by decide +kernel
theorem dX11_ask_75 : decode cX11_ask 75 = .ok (.iload_n 3, 1) := by decide +kernel
theorem dX11_ask_76 : decode cX11_ask 76 = .ok (.if_icmp .ge 8, 3) := by decide +kernel
theorem dX11_ask_79 : decode cX11_ask 79 = .ok (.iload 4, 2) := by decide +kernel
theorem dX11_ask_81 : decode cX11_ask 81 = .ok (.goto 4, 3) := by decide +kernel
theorem dX11_ask_84 : decode cX11_ask 84 = .ok (.iload_n 2, 1) := by decide +kernel
theorem dX11_ask_85 : decode cX11_ask 85 = .ok (.istore_n 2, 1) := by decide +kernel
theorem dX11_ask_86 : decode cX11_ask 86 = .ok (.iload_n 3, 1) := by decide +kernel
theorem dX11_ask_87 : decode cX11_ask 87 = .ok (.iload 5, 2) := by decide +kernel
theorem dX11_ask_89 : decode cX11_ask 89 = .ok (.invokestatic 262, 3) := by decide +kernel
theorem dX11_ask_92 : decode cX11_ask 92 = .ok (.istore_n 3, 1) := by decide +kernel
theorem dX11_ask_93 : decode cX11_ask 93 = .ok (.iinc 4 1, 3) := by decide +kernel
theorem dX11_ask_96 : decode cX11_ask 96 = .ok (.goto (-41), 3) := by decide +kernel
theorem dX11_ask_99 : decode cX11_ask 99 = .ok (.iload_n 2, 1) := by decide +kernel
theorem dX11_ask_100 : decode cX11_ask 100 = .ok (.ireturn, 1) := by decide +kernel
theorem dX11_worst_0 : decode cX11_worst 0 = .ok (.aload_n 0, 1) := by decide +kernel
theorem dX11_worst_1 : decode cX11_worst 1 = .ok (.iconst 0, 1) := by decide +kernel
theorem dX11_worst_2 : decode cX11_worst 2 = .ok (.putfield 3, 3) := by decide +kernel
theorem dX11_worst_5 : decode cX11_worst 5 = .ok (.aload_n 0, 1) := by decide +kernel
theorem dX11_worst_6 : decode cX11_worst 6 = .ok (.iload_n 1, 1) := by decide +kernel
theorem dX11_worst_7 : decode cX11_worst 7 = .ok (.invokestatic 138, 3) := by decide +kernel
theorem dX11_worst_10 : decode cX11_worst 10 = .ok (.iconst 1, 1) := by decide +kernel
theorem dX11_worst_11 : decode cX11_worst 11 = .ok (.invokevirtual 240, 3) := by decide +kernel
theorem dX11_worst_14 : decode cX11_worst 14 = .ok (.ifCond .eq 5, 3) := by decide +kernel
theorem dX11_worst_17 : decode cX11_worst 17 = .ok (.iconst 0, 1) := by decide +kernel
theorem dX11_worst_18 : decode cX11_worst 18 = .ok (.ireturn, 1) := by decide +kernel
theorem dX11_worst_19 : decode cX11_worst 19 = .ok (.iconst (-1), 1) := by decide +kernel
theorem dX11_worst_20 : decode cX11_worst 20 = .ok (.istore_n 2, 1) := by decide +kernel
theorem dX11_worst_21 : decode cX11_worst 21 = .ok (.iconst 0, 1) := by decide +kernel
theorem dX11_worst_22 : decode cX11_worst 22 = .ok (.istore_n 3, 1) := by decide +kernel
theorem dX11_worst_23 : decode cX11_worst 23 = .ok (.iconst 0, 1) := by decide +kernel
theorem dX11_worst_24 : decode cX11_worst 24 = .ok (.istore 4, 2) := by decide +kernel
theorem dX11_worst_26 : decode cX11_worst 26 = .ok (.iload 4, 2) := by decide +kernel
theorem dX11_worst_28 : decode cX11_worst 28 = .ok (.aload_n 0, 1) := by decide +kernel
theorem dX11_worst_29 : decode cX11_worst 29 = .ok (.invokevirtual 68, 3) := by decide +kernel
theorem dX11_worst_32 : decode cX11_worst 32 = .ok (.if_icmp .ge 40, 3) := by decide +kernel
theorem dX11_worst_35 : decode cX11_worst 35 = .ok (.aload_n 0, 1) := by decide +kernel
theorem dX11_worst_36 : decode cX11_worst 36 = .ok (.iload 4, 2) := by decide +kernel
theorem dX11_worst_38 : decode cX11_worst 38 = .ok (.iconst 3, 1) := by decide +kernel
theorem dX11_worst_39 : decode cX11_worst 39 = .ok (.iload_n 1, 1) := by decide +kernel
theorem dX11_worst_40 : decode cX11_worst 40 = .ok (.iadd, 1) := by decide +kernel
theorem dX11_worst_41 : decode cX11_worst 41 = .ok (.invokevirtual 59, 3) := by decide +kernel
theorem dX11_worst_44 : decode cX11_worst 44 = .ok (.istore 5, 2) := by decide +kernel
theorem dX11_worst_46 : decode cX11_worst 46 = .ok (.iload 5, 2) := by decide +kernel
theorem dX11_worst_48 : decode cX11_worst 48 = .ok (.iload_n 3, 1) := by decide +kernel
theorem dX11_worst_49 : decode cX11_worst 49 = .ok (.if_icmp .le 8, 3) := by decide +kernel
theorem dX11_worst_52 : decode cX11_worst 52 = .ok (.iload 4, 2) := by decide +kernel
theorem dX11_worst_54 : decode cX11_worst 54 = .ok (.goto 4, 3) := by decide +kernel
theorem dX11_worst_57 : decode cX11_worst 57 = .ok (.iload_n 2, 1) := by decide +kernel
theorem dX11_worst_58 : decode cX11_worst 58 = .ok (.istore_n 2, 1) := by decide +kernel
theorem dX11_worst_59 : decode cX11_worst 59 = .ok (.iload_n 3, 1) := by decide +kernel
theorem dX11_worst_60 : decode cX11_worst 60 = .ok (.iload 5, 2) := by decide +kernel
theorem dX11_worst_62 : decode cX11_worst 62 = .ok (.invokestatic 253, 3) := by decide +kernel
theorem dX11_worst_65 : decode cX11_worst 65 = .ok (.istore_n 3, 1) := by decide +kernel
theorem dX11_worst_66 : decode cX11_worst 66 = .ok (.iinc 4 1, 3) := by decide +kernel
theorem dX11_worst_69 : decode cX11_worst 69 = .ok (.goto (-43), 3) := by decide +kernel
theorem dX11_worst_72 : decode cX11_worst 72 = .ok (.iload_n 2, 1) := by decide +kernel
theorem dX11_worst_73 : decode cX11_worst 73 = .ok (.ireturn, 1) := by decide +kernel
theorem dX11_traitOf_0 : decode cX11_traitOf 0 = .ok (.iconst (-1), 1) := by decide +kernel
theorem dX11_traitOf_1 : decode cX11_traitOf 1 = .ok (.istore_n 2, 1) := by decide +kernel
theorem dX11_traitOf_2 : decode cX11_traitOf 2 = .ok (.iconst 0, 1) := by decide +kernel
theorem dX11_traitOf_3 : decode cX11_traitOf 3 = .ok (.istore_n 3, 1) := by decide +kernel
theorem dX11_traitOf_4 : decode cX11_traitOf 4 = .ok (.iconst 0, 1) := by decide +kernel
theorem dX11_traitOf_5 : decode cX11_traitOf 5 = .ok (.istore 4, 2) := by decide +kernel
theorem dX11_traitOf_7 : decode cX11_traitOf 7 = .ok (.iload 4, 2) := by decide +kernel
theorem dX11_traitOf_9 : decode cX11_traitOf 9 = .ok (.bipush 6, 2) := by decide +kernel
theorem dX11_traitOf_11 : decode cX11_traitOf 11 = .ok (.if_icmp .ge 43, 3) := by decide +kernel
theorem dX11_traitOf_14 : decode cX11_traitOf 14 = .ok (.aload_n 0, 1) := by decide +kernel
theorem dX11_traitOf_15 : decode cX11_traitOf 15 = .ok (.iload_n 1, 1) := by decide +kernel
theorem dX11_traitOf_16 : decode cX11_traitOf 16 = .ok (.iconst 3, 1) := by decide +kernel
theorem dX11_traitOf_17 : decode cX11_traitOf 17 = .ok (.iload 4, 2) := by decide +kernel
theorem dX11_traitOf_19 : decode cX11_traitOf 19 = .ok (.iadd, 1) := by decide +kernel
theorem dX11_traitOf_20 : decode cX11_traitOf 20 = .ok (.invokevirtual 59, 3) := by decide +kernel
theorem dX11_traitOf_23 : decode cX11_traitOf 23 = .ok (.iload_n 3, 1) := by decide +kernel
theorem dX11_traitOf_24 : decode cX11_traitOf 24 = .ok (.if_icmp .le 8, 3) := by decide +kernel
theorem dX11_traitOf_27 : decode cX11_traitOf 27 = .ok (.iload 4, 2) := by decide +kernel
theorem dX11_traitOf_29 : decode cX11_traitOf 29 = .ok (.goto 4, 3) := by decide +kernel
theorem dX11_traitOf_32 : decode cX11_traitOf 32 = .ok (.iload_n 2, 1) := by decide +kernel
theorem dX11_traitOf_33 : decode cX11_traitOf 33 = .ok (.istore_n 2, 1) := by decide +kernel
theorem dX11_traitOf_34 : decode cX11_traitOf 34 = .ok (.iload_n 3, 1) := by decide +kernel
theorem dX11_traitOf_35 : decode cX11_traitOf 35 = .ok (.aload_n 0, 1) := by decide +kernel
theorem dX11_traitOf_36 : decode cX11_traitOf 36 = .ok (.iload_n 1, 1) := by decide +kernel
theorem dX11_traitOf_37 : decode cX11_traitOf 37 = .ok (.iconst 3, 1) := by decide +kernel
theorem dX11_traitOf_38 : decode cX11_traitOf 38 = .ok (.iload 4, 2) := by decide +kernel
theorem dX11_traitOf_40 : decode cX11_traitOf 40 = .ok (.iadd, 1) := by decide +kernel
theorem dX11_traitOf_41 : decode cX11_traitOf 41 = .ok (.invokevirtual 59, 3) := by decide +kernel
theorem dX11_traitOf_44 : decode cX11_traitOf 44 = .ok (.invokestatic 253, 3) := by decide +kernel
theorem dX11_traitOf_47 : decode cX11_traitOf 47 = .ok (.istore_n 3, 1) := by decide +kernel
theorem dX11_traitOf_48 : decode cX11_traitOf 48 = .ok (.iinc 4 1, 3) := by decide +kernel
theorem dX11_traitOf_51 : decode cX11_traitOf 51 = .ok (.goto (-44), 3) := by decide +kernel
theorem dX11_traitOf_54 : decode cX11_traitOf 54 = .ok (.iload_n 2, 1) := by decide +kernel
theorem dX11_traitOf_55 : decode cX11_traitOf 55 = .ok (.ireturn, 1) := by decide +kernel
theorem dX11_alike_0 : decode cX11_alike 0 = .ok (.aload_n 0, 1) := by decide +kernel
theorem dX11_alike_1 : decode cX11_alike 1 = .ok (.iconst 0, 1) := by decide +kernel
theorem dX11_alike_2 : decode cX11_alike 2 = .ok (.putfield 3, 3) := by decide +kernel
theorem dX11_alike_5 : decode cX11_alike 5 = .ok (.iconst 0, 1) := by decide +kernel
theorem dX11_alike_6 : decode cX11_alike 6 = .ok (.istore_n 1, 1) := by decide +kernel
theorem dX11_alike_7 : decode cX11_alike 7 = .ok (.iconst 0, 1) := by decide +kernel
theorem dX11_alike_8 : decode cX11_alike 8 = .ok (.istore_n 2, 1) := by decide +kernel
theorem dX11_alike_9 : decode cX11_alike 9 = .ok (.iload_n 2, 1) := by decide +kernel
theorem dX11_alike_10 : decode cX11_alike 10 = .ok (.aload_n 0, 1) := by decide +kernel
theorem dX11_alike_11 : decode cX11_alike 11 = .ok (.invokevirtual 68, 3) := by decide +kernel
theorem dX11_alike_14 : decode cX11_alike 14 = .ok (.if_icmp .ge 52, 3) := by decide +kernel
theorem dX11_alike_17 : decode cX11_alike 17 = .ok (.iconst 0, 1) := by decide +kernel
theorem dX11_alike_18 : decode cX11_alike 18 = .ok (.istore_n 3, 1) := by decide +kernel
theorem dX11_alike_19 : decode cX11_alike 19 = .ok (.iload_n 3, 1) := by decide +kernel
theorem dX11_alike_20 : decode cX11_alike 20 = .ok (.iload_n 2, 1) := by decide +kernel
theorem dX11_alike_21 : decode cX11_alike 21 = .ok (.if_icmp .ge 39, 3) := by decide +kernel
theorem dX11_alike_24 : decode cX11_alike 24 = .ok (.iload_n 1, 1) := by decide +kernel
theorem dX11_alike_25 : decode cX11_alike 25 = .ok (.aload_n 0, 1) := by decide +kernel
theorem dX11_alike_26 : decode cX11_alike 26 = .ok (.iload_n 2, 1) := by decide +kernel
theorem dX11_alike_27 : decode cX11_alike 27 = .ok (.invokevirtual 382, 3) := by decide +kernel
theorem dX11_alike_30 : decode cX11_alike 30 = .ok (.iconst (-1), 1) := by decide +kernel
theorem dX11_alike_31 : decode cX11_alike 31 = .ok (.if_icmp .eq 20, 3) := by decide +kernel
theorem dX11_alike_34 : decode cX11_alike 34 = .ok (.aload_n 0, 1) := by decide +kernel
theorem dX11_alike_35 : decode cX11_alike 35 = .ok (.iload_n 2, 1) := by decide +kernel
theorem dX11_alike_36 : decode cX11_alike 36 = .ok (.invokevirtual 382, 3) := by decide +kernel
theorem dX11_alike_39 : decode cX11_alike 39 = .ok (.aload_n 0, 1) := by decide +kernel
theorem dX11_alike_40 : decode cX11_alike 40 = .ok (.iload_n 3, 1) := by decide +kernel
theorem dX11_alike_41 : decode cX11_alike 41 = .ok (.invokevirtual 382, 3) := by decide +kernel
theorem dX11_alike_44 : decode cX11_alike 44 = .ok (.if_icmp .ne 7, 3) := by decide +kernel
theorem dX11_alike_47 : decode cX11_alike 47 = .ok (.iconst 1, 1) := by decide +kernel
theorem dX11_alike_48 : decode cX11_alike 48 = .ok (.goto 4, 3) := by decide +kernel
theorem dX11_alike_51 : decode cX11_alike 51 = .ok (.iconst 0, 1) := by decide +kernel
theorem dX11_alike_52 : decode cX11_alike 52 = .ok (.iadd, 1) := by decide +kernel
theorem dX11_alike_53 : decode cX11_alike 53 = .ok (.istore_n 1, 1) := by decide +kernel
theorem dX11_alike_54 : decode cX11_alike 54 = .ok (.iinc 3 1, 3) := by decide +kernel
theorem dX11_alike_57 : decode cX11_alike 57 = .ok (.goto (-38), 3) := by decide +kernel
theorem dX11_alike_60 : decode cX11_alike 60 = .ok (.iinc 2 1, 3) := by decide +kernel
theorem dX11_alike_63 : decode cX11_alike 63 = .ok (.goto (-54), 3) := by decide +kernel
theorem dX11_alike_66 : decode cX11_alike 66 = .ok (.iload_n 1, 1) := by decide +kernel
theorem dX11_alike_67 : decode cX11_alike 67 = .ok (.ireturn, 1) := by decide +kernel
theorem dX11_haveOf_0 : decode cX11_haveOf 0 = .ok (.iconst 0, 1) := by decide +kernel
theorem dX11_haveOf_1 : decode cX11_haveOf 1 = .ok (.istore_n 2, 1) := by decide +kernel
theorem dX11_haveOf_2 : decode cX11_haveOf 2 = .ok (.iconst 0, 1) := by decide +kernel
theorem dX11_haveOf_3 : decode cX11_haveOf 3 = .ok (.istore_n 3, 1) := by decide +kernel
theorem dX11_haveOf_4 : decode cX11_haveOf 4 = .ok (.iload_n 3, 1) := by decide +kernel
theorem dX11_haveOf_5 : decode cX11_haveOf 5 = .ok (.aload_n 0, 1) := by decide +kernel
theorem dX11_haveOf_6 : decode cX11_haveOf 6 = .ok (.invokevirtual 68, 3) := by decide +kernel
theorem dX11_haveOf_9 : decode cX11_haveOf 9 = .ok (.if_icmp .ge 20, 3) := by decide +kernel
theorem dX11_haveOf_12 : decode cX11_haveOf 12 = .ok (.iload_n 2, 1) := by decide +kernel
theorem dX11_haveOf_13 : decode cX11_haveOf 13 = .ok (.aload_n 0, 1) := by decide +kernel
theorem dX11_haveOf_14 : decode cX11_haveOf 14 = .ok (.iload_n 3, 1) := by decide +kernel
theorem dX11_haveOf_15 : decode cX11_haveOf 15 = .ok (.iconst 3, 1) := by decide +kernel
theorem dX11_haveOf_16 : decode cX11_haveOf 16 = .ok (.iload_n 1, 1) := by decide +kernel
theorem dX11_haveOf_17 : decode cX11_haveOf 17 = .ok (.iadd, 1) := by decide +kernel
theorem dX11_haveOf_18 : decode cX11_haveOf 18 = .ok (.invokevirtual 59, 3) := by decide +kernel
theorem dX11_haveOf_21 : decode cX11_haveOf 21 = .ok (.iadd, 1) := by decide +kernel
theorem dX11_haveOf_22 : decode cX11_haveOf 22 = .ok (.istore_n 2, 1) := by decide +kernel
theorem dX11_haveOf_23 : decode cX11_haveOf 23 = .ok (.iinc 3 1, 3) := by decide +kernel
theorem dX11_haveOf_26 : decode cX11_haveOf 26 = .ok (.goto (-22), 3) := by decide +kernel
theorem dX11_haveOf_29 : decode cX11_haveOf 29 = .ok (.iload_n 2, 1) := by decide +kernel
theorem dX11_haveOf_30 : decode cX11_haveOf 30 = .ok (.ireturn, 1) := by decide +kernel
theorem dX11_share_0 : decode cX11_share 0 = .ok (.aload_n 0, 1) := by decide +kernel
theorem dX11_share_1 : decode cX11_share 1 = .ok (.iconst 0, 1) := by decide +kernel
theorem dX11_share_2 : decode cX11_share 2 = .ok (.putfield 3, 3) := by decide +kernel
theorem dX11_share_5 : decode cX11_share 5 = .ok (.aload_n 0, 1) := by decide +kernel
theorem dX11_share_6 : decode cX11_share 6 = .ok (.aload_n 0, 1) := by decide +kernel
theorem dX11_share_7 : decode cX11_share 7 = .ok (.iload_n 1, 1) := by decide +kernel
theorem dX11_share_8 : decode cX11_share 8 = .ok (.invokevirtual 274, 3) := by decide +kernel
theorem dX11_share_11 : decode cX11_share 11 = .ok (.ifCond .ne 10, 3) := by decide +kernel
theorem dX11_share_14 : decode cX11_share 14 = .ok (.iload_n 2, 1) := by decide +kernel
theorem dX11_share_15 : decode cX11_share 15 = .ok (.invokestatic 138, 3) := by decide +kernel
theorem dX11_share_18 : decode cX11_share 18 = .ok (.ifCond .eq 7, 3) := by decide +kernel
theorem dX11_share_21 : decode cX11_share 21 = .ok (.iconst 1, 1) := by decide +kernel
theorem dX11_share_22 : decode cX11_share 22 = .ok (.goto 4, 3) := by decide +kernel
theorem dX11_share_25 : decode cX11_share 25 = .ok (.iconst 0, 1) := by decide +kernel
theorem dX11_share_26 : decode cX11_share 26 = .ok (.iconst 1, 1) := by decide +kernel
theorem dX11_share_27 : decode cX11_share 27 = .ok (.invokevirtual 240, 3) := by decide +kernel
theorem dX11_share_30 : decode cX11_share 30 = .ok (.ifCond .eq 5, 3) := by decide +kernel
theorem dX11_share_33 : decode cX11_share 33 = .ok (.iconst 0, 1) := by decide +kernel
theorem dX11_share_34 : decode cX11_share 34 = .ok (.ireturn, 1) := by decide +kernel
theorem dX11_share_35 : decode cX11_share 35 = .ok (.aload_n 0, 1) := by decide +kernel
theorem dX11_share_36 : decode cX11_share 36 = .ok (.iload_n 2, 1) := by decide +kernel
theorem dX11_share_37 : decode cX11_share 37 = .ok (.invokevirtual 385, 3) := by decide +kernel
theorem dX11_share_40 : decode cX11_share 40 = .ok (.istore_n 3, 1) := by decide +kernel
theorem dX11_share_41 : decode cX11_share 41 = .ok (.iload_n 3, 1) := by decide +kernel
theorem dX11_share_42 : decode cX11_share 42 = .ok (.ifCond .ne 7, 3) := by decide +kernel
theorem dX11_share_45 : decode cX11_share 45 = .ok (.iconst 0, 1) := by decide +kernel
theorem dX11_share_46 : decode cX11_share 46 = .ok (.goto 16, 3) := by decide +kernel
theorem dX11_share_49 : decode cX11_share 49 = .ok (.bipush 100, 2) := by decide +kernel
theorem dX11_share_51 : decode cX11_share 51 = .ok (.aload_n 0, 1) := by decide +kernel
theorem dX11_share_52 : decode cX11_share 52 = .ok (.iload_n 1, 1) := by decide +kernel
theorem dX11_share_53 : decode cX11_share 53 = .ok (.iconst 3, 1) := by decide +kernel
theorem dX11_share_54 : decode cX11_share 54 = .ok (.iload_n 2, 1) := by decide +kernel
theorem dX11_share_55 : decode cX11_share 55 = .ok (.iadd, 1) := by decide +kernel
theorem dX11_share_56 : decode cX11_share 56 = .ok (.invokevirtual 59, 3) := by decide +kernel
theorem dX11_share_59 : decode cX11_share 59 = .ok (.imul, 1) := by decide +kernel
theorem dX11_share_60 : decode cX11_share 60 = .ok (.iload_n 3, 1) := by decide +kernel
theorem dX11_share_61 : decode cX11_share 61 = .ok (.idiv, 1) := by decide +kernel
theorem dX11_share_62 : decode cX11_share 62 = .ok (.ireturn, 1) := by decide +kernel
theorem dX11_grainsOfAll_0 : decode cX11_grainsOfAll 0 = .ok (.iconst 0, 1) := by decide +kernel
theorem dX11_grainsOfAll_1 : decode cX11_grainsOfAll 1 = .ok (.istore_n 1, 1) := by decide +kernel
theorem dX11_grainsOfAll_2 : decode cX11_grainsOfAll 2 = .ok (.iconst 0, 1) := by decide +kernel
theorem dX11_grainsOfAll_3 : decode cX11_grainsOfAll 3 = .ok (.istore_n 2, 1) := by decide +kernel
theorem dX11_grainsOfAll_4 : decode cX11_grainsOfAll 4 = .ok (.iload_n 2, 1) := by decide +kernel
theorem dX11_grainsOfAll_5 : decode cX11_grainsOfAll 5 = .ok (.aload_n 0, 1) := by decide +kernel
theorem dX11_grainsOfAll_6 : decode cX11_grainsOfAll 6 = .ok (.invokevirtual 76, 3) := by decide +kernel
theorem dX11_grainsOfAll_9 : decode cX11_grainsOfAll 9 = .ok (.if_icmp .ge 18, 3) := by decide +kernel
theorem dX11_grainsOfAll_12 : decode cX11_grainsOfAll 12 = .ok (.iload_n 1, 1) := by decide +kernel
theorem dX11_grainsOfAll_13 : decode cX11_grainsOfAll 13 = .ok (.aload_n 0, 1) := by decide +kernel
theorem dX11_grainsOfAll_14 : decode cX11_grainsOfAll 14 = .ok (.iload_n 2, 1) := by decide +kernel
theorem dX11_grainsOfAll_15 : decode cX11_grainsOfAll 15 = .ok (.iconst 2, 1) := by decide +kernel
theorem dX11_grainsOfAll_16 : decode cX11_grainsOfAll 16 = .ok (.invokevirtual 65, 3) := by decide +kernel
theorem dX11_grainsOfAll_19 : decode cX11_grainsOfAll 19 = .ok (.iadd, 1) := by decide +kernel
theorem dX11_grainsOfAll_20 : decode cX11_grainsOfAll 20 = .ok (.istore_n 1, 1) := by decide +kernel
theorem dX11_grainsOfAll_21 : decode cX11_grainsOfAll 21 = .ok (.iinc 2 1, 3) := by decide +kernel
theorem dX11_grainsOfAll_24 : decode cX11_grainsOfAll 24 = .ok (.goto (-20), 3) := by decide +kernel
theorem dX11_grainsOfAll_27 : decode cX11_grainsOfAll 27 = .ok (.iload_n 1, 1) := by decide +kernel
theorem dX11_grainsOfAll_28 : decode cX11_grainsOfAll 28 = .ok (.ireturn, 1) := by decide +kernel
theorem dX11_whole_0 : decode cX11_whole 0 = .ok (.aload_n 0, 1) := by decide +kernel
theorem dX11_whole_1 : decode cX11_whole 1 = .ok (.iconst 0, 1) := by decide +kernel
theorem dX11_whole_2 : decode cX11_whole 2 = .ok (.putfield 3, 3) := by decide +kernel
theorem dX11_whole_5 : decode cX11_whole 5 = .ok (.aload_n 0, 1) := by decide +kernel
theorem dX11_whole_6 : decode cX11_whole 6 = .ok (.invokevirtual 388, 3) := by decide +kernel
theorem dX11_whole_9 : decode cX11_whole 9 = .ok (.aload_n 0, 1) := by decide +kernel
theorem dX11_whole_10 : decode cX11_whole 10 = .ok (.getfield 13, 3) := by decide +kernel
theorem dX11_whole_13 : decode cX11_whole 13 = .ok (.bipush 9, 2) := by decide +kernel
theorem dX11_whole_15 : decode cX11_whole 15 = .ok (.iaload, 1) := by decide +kernel
theorem dX11_whole_16 : decode cX11_whole 16 = .ok (.iadd, 1) := by decide +kernel
theorem dX11_whole_17 : decode cX11_whole 17 = .ok (.istore_n 1, 1) := by decide +kernel
theorem dX11_whole_18 : decode cX11_whole 18 = .ok (.iconst 0, 1) := by decide +kernel
theorem dX11_whole_19 : decode cX11_whole 19 = .ok (.istore_n 2, 1) := by decide +kernel
theorem dX11_whole_20 : decode cX11_whole 20 = .ok (.iload_n 2, 1) := by decide +kernel
theorem dX11_whole_21 : decode cX11_whole 21 = .ok (.bipush 6, 2) := by decide +kernel
theorem dX11_whole_23 : decode cX11_whole 23 = .ok (.if_icmp .ge 17, 3) := by decide +kernel
theorem dX11_whole_26 : decode cX11_whole 26 = .ok (.iload_n 1, 1) := by decide +kernel
theorem dX11_whole_27 : decode cX11_whole 27 = .ok (.aload_n 0, 1) := by decide +kernel
theorem dX11_whole_28 : decode cX11_whole 28 = .ok (.iload_n 2, 1) := by decide +kernel
theorem dX11_whole_29 : decode cX11_whole 29 = .ok (.invokevirtual 385, 3) := by decide +kernel
theorem dX11_whole_32 : decode cX11_whole 32 = .ok (.iadd, 1) := by decide +kernel
theorem dX11_whole_33 : decode cX11_whole 33 = .ok (.istore_n 1, 1) := by decide +kernel
theorem dX11_whole_34 : decode cX11_whole 34 = .ok (.iinc 2 1, 3) := by decide +kernel
theorem dX11_whole_37 : decode cX11_whole 37 = .ok (.goto (-17), 3) := by decide +kernel
theorem dX11_whole_40 : decode cX11_whole 40 = .ok (.iload_n 1, 1) := by decide +kernel
theorem dX11_whole_41 : decode cX11_whole 41 = .ok (.ireturn, 1) := by decide +kernel
theorem dX11_sentenceOf_0 : decode cX11_sentenceOf 0 = .ok (.iconst 0, 1) := by decide +kernel
theorem dX11_sentenceOf_1 : decode cX11_sentenceOf 1 = .ok (.istore_n 2, 1) := by decide +kernel
theorem dX11_sentenceOf_2 : decode cX11_sentenceOf 2 = .ok (.iconst 0, 1) := by decide +kernel
theorem dX11_sentenceOf_3 : decode cX11_sentenceOf 3 = .ok (.istore_n 3, 1) := by decide +kernel
theorem dX11_sentenceOf_4 : decode cX11_sentenceOf 4 = .ok (.iload_n 3, 1) := by decide +kernel
theorem dX11_sentenceOf_5 : decode cX11_sentenceOf 5 = .ok (.aload_n 0, 1) := by decide +kernel
theorem dX11_sentenceOf_6 : decode cX11_sentenceOf 6 = .ok (.invokevirtual 68, 3) := by decide +kernel
theorem dX11_sentenceOf_9 : decode cX11_sentenceOf 9 = .ok (.if_icmp .ge 18, 3) := by decide +kernel
theorem dX11_sentenceOf_12 : decode cX11_sentenceOf 12 = .ok (.iload_n 2, 1) := by decide +kernel
theorem dX11_sentenceOf_13 : decode cX11_sentenceOf 13 = .ok (.aload_n 0, 1) := by decide +kernel
theorem dX11_sentenceOf_14 : decode cX11_sentenceOf 14 = .ok (.iload_n 3, 1) := by decide +kernel
theorem dX11_sentenceOf_15 : decode cX11_sentenceOf 15 = .ok (.iconst 1, 1) := by decide +kernel
theorem dX11_sentenceOf_16 : decode cX11_sentenceOf 16 = .ok (.invokevirtual 59, 3) := by decide +kernel
theorem dX11_sentenceOf_19 : decode cX11_sentenceOf 19 = .ok (.iadd, 1) := by decide +kernel
theorem dX11_sentenceOf_20 : decode cX11_sentenceOf 20 = .ok (.istore_n 2, 1) := by decide +kernel
theorem dX11_sentenceOf_21 : decode cX11_sentenceOf 21 = .ok (.iinc 3 1, 3) := by decide +kernel
theorem dX11_sentenceOf_24 : decode cX11_sentenceOf 24 = .ok (.goto (-20), 3) := by decide +kernel
theorem dX11_sentenceOf_27 : decode cX11_sentenceOf 27 = .ok (.aload_n 0, 1) := by decide +kernel
theorem dX11_sentenceOf_28 : decode cX11_sentenceOf 28 = .ok (.iload_n 1, 1) := by decide +kernel
theorem dX11_sentenceOf_29 : decode cX11_sentenceOf 29 = .ok (.iconst 2, 1) := by decide +kernel
theorem dX11_sentenceOf_30 : decode cX11_sentenceOf 30 = .ok (.invokevirtual 65, 3) := by decide +kernel
theorem dX11_sentenceOf_33 : decode cX11_sentenceOf 33 = .ok (.istore_n 3, 1) := by decide +kernel
theorem dX11_sentenceOf_34 : decode cX11_sentenceOf 34 = .ok (.iload_n 3, 1) := by decide +kernel
theorem dX11_sentenceOf_35 : decode cX11_sentenceOf 35 = .ok (.ifCond .ne 5, 3) := by decide +kernel
theorem dX11_sentenceOf_38 : decode cX11_sentenceOf 38 = .ok (.iconst 0, 1) := by decide +kernel
theorem dX11_sentenceOf_39 : decode cX11_sentenceOf 39 = .ok (.ireturn, 1) := by decide +kernel
theorem dX11_sentenceOf_40 : decode cX11_sentenceOf 40 = .ok (.iload_n 2, 1) := by decide +kernel
theorem dX11_sentenceOf_41 : decode cX11_sentenceOf 41 = .ok (.ifCond .ne 7, 3) := by decide +kernel
theorem dX11_sentenceOf_44 : decode cX11_sentenceOf 44 = .ok (.ldc_w 334, 3) := by decide +kernel
theorem dX11_sentenceOf_47 : decode cX11_sentenceOf 47 = .ok (.ireturn, 1) := by decide +kernel
theorem dX11_sentenceOf_48 : decode cX11_sentenceOf 48 = .ok (.iconst 0, 1) := by decide +kernel
theorem dX11_sentenceOf_49 : decode cX11_sentenceOf 49 = .ok (.istore 4, 2) := by decide +kernel
theorem dX11_sentenceOf_51 : decode cX11_sentenceOf 51 = .ok (.iload_n 3, 1) := by decide +kernel
theorem dX11_sentenceOf_52 : decode cX11_sentenceOf 52 = .ok (.ifCond .le 24, 3) := by decide +kernel
theorem dX11_sentenceOf_55 : decode cX11_sentenceOf 55 = .ok (.iload_n 3, 1) := by decide +kernel
theorem dX11_sentenceOf_56 : decode cX11_sentenceOf 56 = .ok (.aload_n 0, 1) := by decide +kernel
theorem dX11_sentenceOf_57 : decode cX11_sentenceOf 57 = .ok (.iload 4, 2) := by decide +kernel
theorem dX11_sentenceOf_59 : decode cX11_sentenceOf 59 = .ok (.aload_n 0, 1) := by decide +kernel
theorem dX11_sentenceOf_60 : decode cX11_sentenceOf 60 = .ok (.invokevirtual 68, 3) := by decide +kernel
theorem dX11_sentenceOf_63 : decode cX11_sentenceOf 63 = .ok (.irem, 1) := by decide +kernel
theorem dX11_sentenceOf_64 : decode cX11_sentenceOf 64 = .ok (.iconst 1, 1) := by decide +kernel
theorem dX11_sentenceOf_65 : decode cX11_sentenceOf 65 = .ok (.invokevirtual 59, 3) := by decide +kernel
theorem dX11_sentenceOf_68 : decode cX11_sentenceOf 68 = .ok (.isub, 1) := by decide +kernel
theorem dX11_sentenceOf_69 : decode cX11_sentenceOf 69 = .ok (.istore_n 3, 1) := by decide +kernel
theorem dX11_sentenceOf_70 : decode cX11_sentenceOf 70 = .ok (.iinc 4 1, 3) := by decide +kernel
theorem dX11_sentenceOf_73 : decode cX11_sentenceOf 73 = .ok (.goto (-22), 3) := by decide +kernel
theorem dX11_sentenceOf_76 : decode cX11_sentenceOf 76 = .ok (.iload 4, 2) := by decide +kernel
theorem dX11_sentenceOf_78 : decode cX11_sentenceOf 78 = .ok (.ireturn, 1) := by decide +kernel
theorem dX11_sentence_0 : decode cX11_sentence 0 = .ok (.aload_n 0, 1) := by decide +kernel
theorem dX11_sentence_1 : decode cX11_sentence 1 = .ok (.iconst 0, 1) := by decide +kernel
theorem dX11_sentence_2 : decode cX11_sentence 2 = .ok (.putfield 3, 3) := by decide +kernel
theorem dX11_sentence_5 : decode cX11_sentence 5 = .ok (.aload_n 0, 1) := by decide +kernel
theorem dX11_sentence_6 : decode cX11_sentence 6 = .ok (.aload_n 0, 1) := by decide +kernel
theorem dX11_sentence_7 : decode cX11_sentence 7 = .ok (.iload_n 1, 1) := by decide +kernel
theorem dX11_sentence_8 : decode cX11_sentence 8 = .ok (.invokevirtual 283, 3) := by decide +kernel
theorem dX11_sentence_11 : decode cX11_sentence 11 = .ok (.iconst 1, 1) := by decide +kernel
theorem dX11_sentence_12 : decode cX11_sentence 12 = .ok (.invokevirtual 240, 3) := by decide +kernel
theorem dX11_sentence_15 : decode cX11_sentence 15 = .ok (.ifCond .eq 7, 3) := by decide +kernel
theorem dX11_sentence_18 : decode cX11_sentence 18 = .ok (.iconst 0, 1) := by decide +kernel
theorem dX11_sentence_19 : decode cX11_sentence 19 = .ok (.goto 11, 3) := by decide +kernel
theorem dX11_sentence_22 : decode cX11_sentence 22 = .ok (.aload_n 0, 1) := by decide +kernel
theorem dX11_sentence_23 : decode cX11_sentence 23 = .ok (.iload_n 1, 1) := by decide +kernel
theorem dX11_sentence_24 : decode cX11_sentence 24 = .ok (.invokevirtual 391, 3) := by decide +kernel
theorem dX11_sentence_27 : decode cX11_sentence 27 = .ok (.invokestatic 347, 3) := by decide +kernel
theorem dX11_sentence_30 : decode cX11_sentence 30 = .ok (.ireturn, 1) := by decide +kernel
theorem dX11_fair_0 : decode cX11_fair 0 = .ok (.aload_n 0, 1) := by decide +kernel
theorem dX11_fair_1 : decode cX11_fair 1 = .ok (.iconst 0, 1) := by decide +kernel
theorem dX11_fair_2 : decode cX11_fair 2 = .ok (.putfield 3, 3) := by decide +kernel
theorem dX11_fair_5 : decode cX11_fair 5 = .ok (.iconst 1, 1) := by decide +kernel
theorem dX11_fair_6 : decode cX11_fair 6 = .ok (.istore_n 1, 1) := by decide +kernel
theorem dX11_fair_7 : decode cX11_fair 7 = .ok (.iconst (-1), 1) := by decide +kernel
theorem dX11_fair_8 : decode cX11_fair 8 = .ok (.istore_n 2, 1) := by decide +kernel
theorem dX11_fair_9 : decode cX11_fair 9 = .ok (.iconst 0, 1) := by decide +kernel
theorem dX11_fair_10 : decode cX11_fair 10 = .ok (.istore_n 3, 1) := by decide +kernel
theorem dX11_fair_11 : decode cX11_fair 11 = .ok (.iload_n 3, 1) := by decide +kernel
theorem dX11_fair_12 : decode cX11_fair 12 = .ok (.aload_n 0, 1) := by decide +kernel
theorem dX11_fair_13 : decode cX11_fair 13 = .ok (.invokevirtual 76, 3) := by decide +kernel
theorem dX11_fair_16 : decode cX11_fair 16 = .ok (.if_icmp .ge 50, 3) := by decide +kernel
theorem dX11_fair_19 : decode cX11_fair 19 = .ok (.aload_n 0, 1) := by decide +kernel
theorem dX11_fair_20 : decode cX11_fair 20 = .ok (.iload_n 3, 1) := by decide +kernel
theorem dX11_fair_21 : decode cX11_fair 21 = .ok (.invokevirtual 268, 3) := by decide +kernel
theorem dX11_fair_24 : decode cX11_fair 24 = .ok (.ifCond .eq 6, 3) := by decide +kernel
theorem dX11_fair_27 : decode cX11_fair 27 = .ok (.goto 33, 3) := by decide +kernel
theorem dX11_fair_30 : decode cX11_fair 30 = .ok (.iload_n 1, 1) := by decide +kernel
theorem dX11_fair_31 : decode cX11_fair 31 = .ok (.ifCond .eq 21, 3) := by decide +kernel
theorem dX11_fair_34 : decode cX11_fair 34 = .ok (.iload_n 2, 1) := by decide +kernel
theorem dX11_fair_35 : decode cX11_fair 35 = .ok (.iconst (-1), 1) := by decide +kernel
theorem dX11_fair_36 : decode cX11_fair 36 = .ok (.if_icmp .eq 12, 3) := by decide +kernel
theorem dX11_fair_39 : decode cX11_fair 39 = .ok (.aload_n 0, 1) := by decide +kernel
theorem dX11_fair_40 : decode cX11_fair 40 = .ok (.iload_n 3, 1) := by decide +kernel
theorem dX11_fair_41 : decode cX11_fair 41 = .ok (.invokevirtual 391, 3) := by decide +kernel
theorem dX11_fair_44 : decode cX11_fair 44 = .ok (.iload_n 2, 1) := by decide +kernel
theorem dX11_fair_45 : decode cX11_fair 45 = .ok (.if_icmp .ne 7, 3) := by decide +kernel
theorem dX11_fair_48 : decode cX11_fair 48 = .ok (.iconst 1, 1) := by decide +kernel
theorem dX11_fair_49 : decode cX11_fair 49 = .ok (.goto 4, 3) := by decide +kernel
theorem dX11_fair_52 : decode cX11_fair 52 = .ok (.iconst 0, 1) := by decide +kernel
theorem dX11_fair_53 : decode cX11_fair 53 = .ok (.istore_n 1, 1) := by decide +kernel
theorem dX11_fair_54 : decode cX11_fair 54 = .ok (.aload_n 0, 1) := by decide +kernel
theorem dX11_fair_55 : decode cX11_fair 55 = .ok (.iload_n 3, 1) := by decide +kernel
theorem dX11_fair_56 : decode cX11_fair 56 = .ok (.invokevirtual 391, 3) := by decide +kernel
theorem dX11_fair_59 : decode cX11_fair 59 = .ok (.istore_n 2, 1) := by decide +kernel
theorem dX11_fair_60 : decode cX11_fair 60 = .ok (.iinc 3 1, 3) := by decide +kernel
theorem dX11_fair_63 : decode cX11_fair 63 = .ok (.goto (-52), 3) := by decide +kernel
theorem dX11_fair_66 : decode cX11_fair 66 = .ok (.iload_n 1, 1) := by decide +kernel
theorem dX11_fair_67 : decode cX11_fair 67 = .ok (.ireturn, 1) := by decide +kernel
theorem dX11_alone_0 : decode cX11_alone 0 = .ok (.aload_n 0, 1) := by decide +kernel
theorem dX11_alone_1 : decode cX11_alone 1 = .ok (.iconst 0, 1) := by decide +kernel
theorem dX11_alone_2 : decode cX11_alone 2 = .ok (.putfield 3, 3) := by decide +kernel
theorem dX11_alone_5 : decode cX11_alone 5 = .ok (.aload_n 0, 1) := by decide +kernel
theorem dX11_alone_6 : decode cX11_alone 6 = .ok (.aload_n 0, 1) := by decide +kernel
theorem dX11_alone_7 : decode cX11_alone 7 = .ok (.iload_n 1, 1) := by decide +kernel
theorem dX11_alone_8 : decode cX11_alone 8 = .ok (.invokevirtual 283, 3) := by decide +kernel
theorem dX11_alone_11 : decode cX11_alone 11 = .ok (.ifCond .ne 11, 3) := by decide +kernel
theorem dX11_alone_14 : decode cX11_alone 14 = .ok (.aload_n 0, 1) := by decide +kernel
theorem dX11_alone_15 : decode cX11_alone 15 = .ok (.iload_n 2, 1) := by decide +kernel
theorem dX11_alone_16 : decode cX11_alone 16 = .ok (.invokevirtual 274, 3) := by decide +kernel
theorem dX11_alone_19 : decode cX11_alone 19 = .ok (.ifCond .eq 7, 3) := by decide +kernel
theorem dX11_alone_22 : decode cX11_alone 22 = .ok (.iconst 1, 1) := by decide +kernel
theorem dX11_alone_23 : decode cX11_alone 23 = .ok (.goto 4, 3) := by decide +kernel
theorem dX11_alone_26 : decode cX11_alone 26 = .ok (.iconst 0, 1) := by decide +kernel
theorem dX11_alone_27 : decode cX11_alone 27 = .ok (.iconst 1, 1) := by decide +kernel
theorem dX11_alone_28 : decode cX11_alone 28 = .ok (.invokevirtual 240, 3) := by decide +kernel
theorem dX11_alone_31 : decode cX11_alone 31 = .ok (.ifCond .eq 5, 3) := by decide +kernel
theorem dX11_alone_34 : decode cX11_alone 34 = .ok (.iconst 0, 1) := by decide +kernel
theorem dX11_alone_35 : decode cX11_alone 35 = .ok (.ireturn, 1) := by decide +kernel
theorem dX11_alone_36 : decode cX11_alone 36 = .ok (.iload_n 2, 1) := by decide +kernel
theorem dX11_alone_37 : decode cX11_alone 37 = .ok (.iconst 3, 1) := by decide +kernel
theorem dX11_alone_38 : decode cX11_alone 38 = .ok (.aload_n 0, 1) := by decide +kernel
theorem dX11_alone_39 : decode cX11_alone 39 = .ok (.iload_n 1, 1) := by decide +kernel
theorem dX11_alone_40 : decode cX11_alone 40 = .ok (.iconst 1, 1) := by decide +kernel
theorem dX11_alone_41 : decode cX11_alone 41 = .ok (.invokevirtual 65, 3) := by decide +kernel
theorem dX11_alone_44 : decode cX11_alone 44 = .ok (.iadd, 1) := by decide +kernel
theorem dX11_alone_45 : decode cX11_alone 45 = .ok (.invokestatic 55, 3) := by decide +kernel
theorem dX11_alone_48 : decode cX11_alone 48 = .ok (.istore_n 3, 1) := by decide +kernel
theorem dX11_alone_49 : decode cX11_alone 49 = .ok (.aload_n 0, 1) := by decide +kernel
theorem dX11_alone_50 : decode cX11_alone 50 = .ok (.iload_n 1, 1) := by decide +kernel
theorem dX11_alone_51 : decode cX11_alone 51 = .ok (.iconst 2, 1) := by decide +kernel
theorem dX11_alone_52 : decode cX11_alone 52 = .ok (.invokevirtual 65, 3) := by decide +kernel
theorem dX11_alone_55 : decode cX11_alone 55 = .ok (.istore 4, 2) := by decide +kernel
theorem dX11_alone_57 : decode cX11_alone 57 = .ok (.aload_n 0, 1) := by decide +kernel
theorem dX11_alone_58 : decode cX11_alone 58 = .ok (.getfield 13, 3) := by decide +kernel
theorem dX11_alone_61 : decode cX11_alone 61 = .ok (.iload_n 3, 1) := by decide +kernel
theorem dX11_alone_62 : decode cX11_alone 62 = .ok (.iaload, 1) := by decide +kernel
theorem dX11_alone_63 : decode cX11_alone 63 = .ok (.istore 5, 2) := by decide +kernel
theorem dX11_alone_65 : decode cX11_alone 65 = .ok (.iconst 0, 1) := by decide +kernel
theorem dX11_alone_66 : decode cX11_alone 66 = .ok (.istore 6, 2) := by decide +kernel
theorem dX11_alone_68 : decode cX11_alone 68 = .ok (.iconst 1, 1) := by decide +kernel
theorem dX11_alone_69 : decode cX11_alone 69 = .ok (.istore 7, 2) := by decide +kernel
theorem dX11_alone_71 : decode cX11_alone 71 = .ok (.iload 7, 2) := by decide +kernel
theorem dX11_alone_73 : decode cX11_alone 73 = .ok (.ifCond .le 69, 3) := by decide +kernel
theorem dX11_alone_76 : decode cX11_alone 76 = .ok (.iload 6, 2) := by decide +kernel
theorem dX11_alone_78 : decode cX11_alone 78 = .ok (.sipush 200, 3) := by decide +kernel
theorem dX11_alone_81 : decode cX11_alone 81 = .ok (.if_icmp .gt 61, 3) := by decide +kernel
theorem dX11_alone_84 : decode cX11_alone 84 = .ok (.aload_n 0, 1) := by decide +kernel
theorem dX11_alone_85 : decode cX11_alone 85 = .ok (.iload_n 1, 1) := by decide +kernel
theorem dX11_alone_86 : decode cX11_alone 86 = .ok (.invokevirtual 268, 3) := by decide +kernel
theorem dX11_alone_89 : decode cX11_alone 89 = .ok (.ifCond .ne 53, 3) := by decide +kernel
theorem dX11_alone_92 : decode cX11_alone 92 = .ok (.aload_n 0, 1) := by decide +kernel
theorem dX11_alone_93 : decode cX11_alone 93 = .ok (.iload_n 1, 1) := by decide +kernel
theorem dX11_alone_94 : decode cX11_alone 94 = .ok (.iload_n 2, 1) := by decide +kernel
theorem dX11_alone_95 : decode cX11_alone 95 = .ok (.invokevirtual 289, 3) := by decide +kernel
theorem dX11_alone_98 : decode cX11_alone 98 = .ok (.istore 7, 2) := by decide +kernel
theorem dX11_alone_100 : decode cX11_alone 100 = .ok (.aload_n 0, 1) := by decide +kernel
theorem dX11_alone_101 : decode cX11_alone 101 = .ok (.getfield 13, 3) := by decide +kernel
theorem dX11_alone_104 : decode cX11_alone 104 = .ok (.iload_n 1, 1) := by decide +kernel
theorem dX11_alone_105 : decode cX11_alone 105 = .ok (.iconst 2, 1) := by decide +kernel
theorem dX11_alone_106 : decode cX11_alone 106 = .ok (.invokestatic 62, 3) := by decide +kernel
theorem dX11_alone_109 : decode cX11_alone 109 = .ok (.dup2, 1) := by decide +kernel
theorem dX11_alone_110 : decode cX11_alone 110 = .ok (.iaload, 1) := by decide +kernel
theorem dX11_alone_111 : decode cX11_alone 111 = .ok (.iload 7, 2) := by decide +kernel
theorem dX11_alone_113 : decode cX11_alone 113 = .ok (.isub, 1) := by decide +kernel
theorem dX11_alone_114 : decode cX11_alone 114 = .ok (.iastore, 1) := by decide +kernel
theorem dX11_alone_115 : decode cX11_alone 115 = .ok (.aload_n 0, 1) := by decide +kernel
theorem dX11_alone_116 : decode cX11_alone 116 = .ok (.getfield 13, 3) := by decide +kernel
theorem dX11_alone_119 : decode cX11_alone 119 = .ok (.iload_n 3, 1) := by decide +kernel
theorem dX11_alone_120 : decode cX11_alone 120 = .ok (.sipush 999, 3) := by decide +kernel
theorem dX11_alone_123 : decode cX11_alone 123 = .ok (.aload_n 0, 1) := by decide +kernel
theorem dX11_alone_124 : decode cX11_alone 124 = .ok (.getfield 13, 3) := by decide +kernel
theorem dX11_alone_127 : decode cX11_alone 127 = .ok (.iload_n 3, 1) := by decide +kernel
theorem dX11_alone_128 : decode cX11_alone 128 = .ok (.iaload, 1) := by decide +kernel
theorem dX11_alone_129 : decode cX11_alone 129 = .ok (.iload 7, 2) := by decide +kernel
theorem dX11_alone_131 : decode cX11_alone 131 = .ok (.iadd, 1) := by decide +kernel
theorem dX11_alone_132 : decode cX11_alone 132 = .ok (.invokestatic 262, 3) := by decide +kernel
theorem dX11_alone_135 : decode cX11_alone 135 = .ok (.iastore, 1) := by decide +kernel
theorem dX11_alone_136 : decode cX11_alone 136 = .ok (.iinc 6 1, 3) := by decide +kernel
theorem dX11_alone_139 : decode cX11_alone 139 = .ok (.goto (-68), 3) := by decide +kernel
theorem dX11_alone_142 : decode cX11_alone 142 = .ok (.aload_n 0, 1) := by decide +kernel
theorem dX11_alone_143 : decode cX11_alone 143 = .ok (.iload_n 1, 1) := by decide +kernel
theorem dX11_alone_144 : decode cX11_alone 144 = .ok (.invokevirtual 268, 3) := by decide +kernel
theorem dX11_alone_147 : decode cX11_alone 147 = .ok (.ifCond .eq 15, 3) := by decide +kernel
theorem dX11_alone_150 : decode cX11_alone 150 = .ok (.iload 6, 2) := by decide +kernel
theorem dX11_alone_152 : decode cX11_alone 152 = .ok (.sipush 200, 3) := by decide +kernel
theorem dX11_alone_155 : decode cX11_alone 155 = .ok (.if_icmp .gt 7, 3) := by decide +kernel
theorem dX11_alone_158 : decode cX11_alone 158 = .ok (.iconst 1, 1) := by decide +kernel
theorem dX11_alone_159 : decode cX11_alone 159 = .ok (.goto 4, 3) := by decide +kernel
theorem dX11_alone_162 : decode cX11_alone 162 = .ok (.iconst 0, 1) := by decide +kernel
theorem dX11_alone_163 : decode cX11_alone 163 = .ok (.istore 7, 2) := by decide +kernel
theorem dX11_alone_165 : decode cX11_alone 165 = .ok (.aload_n 0, 1) := by decide +kernel
theorem dX11_alone_166 : decode cX11_alone 166 = .ok (.getfield 13, 3) := by decide +kernel
theorem dX11_alone_169 : decode cX11_alone 169 = .ok (.iload_n 1, 1) := by decide +kernel
theorem dX11_alone_170 : decode cX11_alone 170 = .ok (.iconst 2, 1) := by decide +kernel
theorem dX11_alone_171 : decode cX11_alone 171 = .ok (.invokestatic 62, 3) := by decide +kernel
theorem dX11_alone_174 : decode cX11_alone 174 = .ok (.iload 4, 2) := by decide +kernel
theorem dX11_alone_176 : decode cX11_alone 176 = .ok (.iastore, 1) := by decide +kernel
theorem dX11_alone_177 : decode cX11_alone 177 = .ok (.aload_n 0, 1) := by decide +kernel
theorem dX11_alone_178 : decode cX11_alone 178 = .ok (.getfield 13, 3) := by decide +kernel
theorem dX11_alone_181 : decode cX11_alone 181 = .ok (.iload_n 3, 1) := by decide +kernel
theorem dX11_alone_182 : decode cX11_alone 182 = .ok (.iload 5, 2) := by decide +kernel
theorem dX11_alone_184 : decode cX11_alone 184 = .ok (.iastore, 1) := by decide +kernel
theorem dX11_alone_185 : decode cX11_alone 185 = .ok (.iload 7, 2) := by decide +kernel
theorem dX11_alone_187 : decode cX11_alone 187 = .ok (.ifCond .eq 8, 3) := by decide +kernel
theorem dX11_alone_190 : decode cX11_alone 190 = .ok (.iload 6, 2) := by decide +kernel
theorem dX11_alone_192 : decode cX11_alone 192 = .ok (.goto 4, 3) := by decide +kernel
theorem dX11_alone_195 : decode cX11_alone 195 = .ok (.iconst (-1), 1) := by decide +kernel
theorem dX11_alone_196 : decode cX11_alone 196 = .ok (.ireturn, 1) := by decide +kernel
theorem dX11_servedTo_0 : decode cX11_servedTo 0 = .ok (.aload_n 0, 1) := by decide +kernel
theorem dX11_servedTo_1 : decode cX11_servedTo 1 = .ok (.iload_n 2, 1) := by decide +kernel
theorem dX11_servedTo_2 : decode cX11_servedTo 2 = .ok (.iconst 2, 1) := by decide +kernel
theorem dX11_servedTo_3 : decode cX11_servedTo 3 = .ok (.invokevirtual 59, 3) := by decide +kernel
theorem dX11_servedTo_6 : decode cX11_servedTo 6 = .ok (.istore 5, 2) := by decide +kernel
theorem dX11_servedTo_8 : decode cX11_servedTo 8 = .ok (.aload_n 0, 1) := by decide +kernel
theorem dX11_servedTo_9 : decode cX11_servedTo 9 = .ok (.getfield 13, 3) := by decide +kernel
theorem dX11_servedTo_12 : decode cX11_servedTo 12 = .ok (.iload_n 2, 1) := by decide +kernel
theorem dX11_servedTo_13 : decode cX11_servedTo 13 = .ok (.iconst 2, 1) := by decide +kernel
theorem dX11_servedTo_14 : decode cX11_servedTo 14 = .ok (.invokestatic 55, 3) := by decide +kernel
theorem dX11_servedTo_17 : decode cX11_servedTo 17 = .ok (.iconst 1, 1) := by decide +kernel
theorem dX11_servedTo_18 : decode cX11_servedTo 18 = .ok (.iload 4, 2) := by decide +kernel
theorem dX11_servedTo_20 : decode cX11_servedTo 20 = .ok (.isub, 1) := by decide +kernel
theorem dX11_servedTo_21 : decode cX11_servedTo 21 = .ok (.iastore, 1) := by decide +kernel
theorem dX11_servedTo_22 : decode cX11_servedTo 22 = .ok (.iload_n 3, 1) := by decide +kernel
theorem dX11_servedTo_23 : decode cX11_servedTo 23 = .ok (.iconst 1, 1) := by decide +kernel
theorem dX11_servedTo_24 : decode cX11_servedTo 24 = .ok (.if_icmp .ne 12, 3) := by decide +kernel
theorem dX11_servedTo_27 : decode cX11_servedTo 27 = .ok (.aload_n 0, 1) := by decide +kernel
theorem dX11_servedTo_28 : decode cX11_servedTo 28 = .ok (.iload_n 1, 1) := by decide +kernel
theorem dX11_servedTo_29 : decode cX11_servedTo 29 = .ok (.iload_n 2, 1) := by decide +kernel
theorem dX11_servedTo_30 : decode cX11_servedTo 30 = .ok (.invokevirtual 271, 3) := by decide +kernel
theorem dX11_servedTo_33 : decode cX11_servedTo 33 = .ok (.goto 4, 3) := by decide +kernel
theorem dX11_servedTo_36 : decode cX11_servedTo 36 = .ok (.iconst 0, 1) := by decide +kernel
theorem dX11_servedTo_37 : decode cX11_servedTo 37 = .ok (.istore 6, 2) := by decide +kernel
theorem dX11_servedTo_39 : decode cX11_servedTo 39 = .ok (.aload_n 0, 1) := by decide +kernel
theorem dX11_servedTo_40 : decode cX11_servedTo 40 = .ok (.getfield 13, 3) := by decide +kernel
theorem dX11_servedTo_43 : decode cX11_servedTo 43 = .ok (.iload_n 2, 1) := by decide +kernel
theorem dX11_servedTo_44 : decode cX11_servedTo 44 = .ok (.iconst 2, 1) := by decide +kernel
theorem dX11_servedTo_45 : decode cX11_servedTo 45 = .ok (.invokestatic 55, 3) := by decide +kernel
theorem dX11_servedTo_48 : decode cX11_servedTo 48 = .ok (.iload 5, 2) := by decide +kernel
theorem dX11_servedTo_50 : decode cX11_servedTo 50 = .ok (.iastore, 1) := by decide +kernel
theorem dX11_servedTo_51 : decode cX11_servedTo 51 = .ok (.iload 6, 2) := by decide +kernel
theorem dX11_servedTo_53 : decode cX11_servedTo 53 = .ok (.ireturn, 1) := by decide +kernel
theorem dX11_dinerHas_0 : decode cX11_dinerHas 0 = .ok (.iload 4, 2) := by decide +kernel
theorem dX11_dinerHas_2 : decode cX11_dinerHas 2 = .ok (.ifCond .ne 7, 3) := by decide +kernel
theorem dX11_dinerHas_5 : decode cX11_dinerHas 5 = .ok (.iconst 2, 1) := by decide +kernel
theorem dX11_dinerHas_6 : decode cX11_dinerHas 6 = .ok (.goto 25, 3) := by decide +kernel
theorem dX11_dinerHas_9 : decode cX11_dinerHas 9 = .ok (.aload_n 0, 1) := by decide +kernel
theorem dX11_dinerHas_10 : decode cX11_dinerHas 10 = .ok (.iload_n 1, 1) := by decide +kernel
theorem dX11_dinerHas_11 : decode cX11_dinerHas 11 = .ok (.iload_n 2, 1) := by decide +kernel
theorem dX11_dinerHas_12 : decode cX11_dinerHas 12 = .ok (.iload_n 3, 1) := by decide +kernel
theorem dX11_dinerHas_13 : decode cX11_dinerHas 13 = .ok (.iload 4, 2) := by decide +kernel
theorem dX11_dinerHas_15 : decode cX11_dinerHas 15 = .ok (.invokevirtual 394, 3) := by decide +kernel
theorem dX11_dinerHas_18 : decode cX11_dinerHas 18 = .ok (.ifCond .le 12, 3) := by decide +kernel
theorem dX11_dinerHas_21 : decode cX11_dinerHas 21 = .ok (.aload_n 0, 1) := by decide +kernel
theorem dX11_dinerHas_22 : decode cX11_dinerHas 22 = .ok (.iload_n 2, 1) := by decide +kernel
theorem dX11_dinerHas_23 : decode cX11_dinerHas 23 = .ok (.iconst 1, 1) := by decide +kernel
theorem dX11_dinerHas_24 : decode cX11_dinerHas 24 = .ok (.invokevirtual 59, 3) := by decide +kernel
theorem dX11_dinerHas_27 : decode cX11_dinerHas 27 = .ok (.goto 4, 3) := by decide +kernel
theorem dX11_dinerHas_30 : decode cX11_dinerHas 30 = .ok (.iconst 0, 1) := by decide +kernel
theorem dX11_dinerHas_31 : decode cX11_dinerHas 31 = .ok (.ireturn, 1) := by decide +kernel
theorem dX11_rests_0 : decode cX11_rests 0 = .ok (.aload_n 0, 1) := by decide +kernel
theorem dX11_rests_1 : decode cX11_rests 1 = .ok (.iload_n 1, 1) := by decide +kernel
theorem dX11_rests_2 : decode cX11_rests 2 = .ok (.iload_n 2, 1) := by decide +kernel
theorem dX11_rests_3 : decode cX11_rests 3 = .ok (.iload_n 3, 1) := by decide +kernel
theorem dX11_rests_4 : decode cX11_rests 4 = .ok (.iload 4, 2) := by decide +kernel
theorem dX11_rests_6 : decode cX11_rests 6 = .ok (.invokevirtual 394, 3) := by decide +kernel
theorem dX11_rests_9 : decode cX11_rests 9 = .ok (.aload_n 0, 1) := by decide +kernel
theorem dX11_rests_10 : decode cX11_rests 10 = .ok (.iload_n 1, 1) := by decide +kernel
theorem dX11_rests_11 : decode cX11_rests 11 = .ok (.iload_n 2, 1) := by decide +kernel
theorem dX11_rests_12 : decode cX11_rests 12 = .ok (.iconst 1, 1) := by decide +kernel
theorem dX11_rests_13 : decode cX11_rests 13 = .ok (.iload_n 3, 1) := by decide +kernel
theorem dX11_rests_14 : decode cX11_rests 14 = .ok (.isub, 1) := by decide +kernel
theorem dX11_rests_15 : decode cX11_rests 15 = .ok (.iload 4, 2) := by decide +kernel
theorem dX11_rests_17 : decode cX11_rests 17 = .ok (.invokevirtual 394, 3) := by decide +kernel
theorem dX11_rests_20 : decode cX11_rests 20 = .ok (.if_icmp .lt 30, 3) := by decide +kernel
theorem dX11_rests_23 : decode cX11_rests 23 = .ok (.aload_n 0, 1) := by decide +kernel
theorem dX11_rests_24 : decode cX11_rests 24 = .ok (.iload_n 1, 1) := by decide +kernel
theorem dX11_rests_25 : decode cX11_rests 25 = .ok (.iload_n 2, 1) := by decide +kernel
theorem dX11_rests_26 : decode cX11_rests 26 = .ok (.iload_n 3, 1) := by decide +kernel
theorem dX11_rests_27 : decode cX11_rests 27 = .ok (.iload 4, 2) := by decide +kernel
theorem dX11_rests_29 : decode cX11_rests 29 = .ok (.invokevirtual 397, 3) := by decide +kernel
theorem dX11_rests_32 : decode cX11_rests 32 = .ok (.aload_n 0, 1) := by decide +kernel
theorem dX11_rests_33 : decode cX11_rests 33 = .ok (.iload_n 1, 1) := by decide +kernel
theorem dX11_rests_34 : decode cX11_rests 34 = .ok (.iload_n 2, 1) := by decide +kernel
theorem dX11_rests_35 : decode cX11_rests 35 = .ok (.iload_n 3, 1) := by decide +kernel
theorem dX11_rests_36 : decode cX11_rests 36 = .ok (.iconst 1, 1) := by decide +kernel
theorem dX11_rests_37 : decode cX11_rests 37 = .ok (.iload 4, 2) := by decide +kernel
theorem dX11_rests_39 : decode cX11_rests 39 = .ok (.isub, 1) := by decide +kernel
theorem dX11_rests_40 : decode cX11_rests 40 = .ok (.invokevirtual 397, 3) := by decide +kernel
theorem dX11_rests_43 : decode cX11_rests 43 = .ok (.if_icmp .lt 7, 3) := by decide +kernel
theorem dX11_rests_46 : decode cX11_rests 46 = .ok (.iconst 1, 1) := by decide +kernel
theorem dX11_rests_47 : decode cX11_rests 47 = .ok (.goto 4, 3) := by decide +kernel
theorem dX11_rests_50 : decode cX11_rests 50 = .ok (.iconst 0, 1) := by decide +kernel
theorem dX11_rests_51 : decode cX11_rests 51 = .ok (.ireturn, 1) := by decide +kernel
theorem dX11_game_0 : decode cX11_game 0 = .ok (.aload_n 0, 1) := by decide +kernel
theorem dX11_game_1 : decode cX11_game 1 = .ok (.iconst 0, 1) := by decide +kernel
theorem dX11_game_2 : decode cX11_game 2 = .ok (.putfield 3, 3) := by decide +kernel
theorem dX11_game_5 : decode cX11_game 5 = .ok (.aload_n 0, 1) := by decide +kernel
theorem dX11_game_6 : decode cX11_game 6 = .ok (.aload_n 0, 1) := by decide +kernel
theorem dX11_game_7 : decode cX11_game 7 = .ok (.iload_n 1, 1) := by decide +kernel
theorem dX11_game_8 : decode cX11_game 8 = .ok (.invokevirtual 274, 3) := by decide +kernel
theorem dX11_game_11 : decode cX11_game 11 = .ok (.iconst 1, 1) := by decide +kernel
theorem dX11_game_12 : decode cX11_game 12 = .ok (.invokevirtual 240, 3) := by decide +kernel
theorem dX11_game_15 : decode cX11_game 15 = .ok (.ifCond .eq 5, 3) := by decide +kernel
theorem dX11_game_18 : decode cX11_game 18 = .ok (.iconst 0, 1) := by decide +kernel
theorem dX11_game_19 : decode cX11_game 19 = .ok (.ireturn, 1) := by decide +kernel
theorem dX11_game_20 : decode cX11_game 20 = .ok (.iconst 0, 1) := by decide +kernel
theorem dX11_game_21 : decode cX11_game 21 = .ok (.istore_n 2, 1) := by decide +kernel
theorem dX11_game_22 : decode cX11_game 22 = .ok (.iload_n 2, 1) := by decide +kernel
theorem dX11_game_23 : decode cX11_game 23 = .ok (.aload_n 0, 1) := by decide +kernel
theorem dX11_game_24 : decode cX11_game 24 = .ok (.invokevirtual 76, 3) := by decide +kernel
theorem dX11_game_27 : decode cX11_game 27 = .ok (.if_icmp .ge 76, 3) := by decide +kernel
theorem dX11_game_30 : decode cX11_game 30 = .ok (.aload_n 0, 1) := by decide +kernel
theorem dX11_game_31 : decode cX11_game 31 = .ok (.iload_n 2, 1) := by decide +kernel
theorem dX11_game_32 : decode cX11_game 32 = .ok (.invokevirtual 268, 3) := by decide +kernel
theorem dX11_game_35 : decode cX11_game 35 = .ok (.ifCond .ne 62, 3) := by decide +kernel
theorem dX11_game_38 : decode cX11_game 38 = .ok (.aload_n 0, 1) := by decide +kernel
theorem dX11_game_39 : decode cX11_game 39 = .ok (.iload_n 2, 1) := by decide +kernel
theorem dX11_game_40 : decode cX11_game 40 = .ok (.invokevirtual 286, 3) := by decide +kernel
theorem dX11_game_43 : decode cX11_game 43 = .ok (.iload_n 1, 1) := by decide +kernel
theorem dX11_game_44 : decode cX11_game 44 = .ok (.if_icmp .eq 6, 3) := by decide +kernel
theorem dX11_game_47 : decode cX11_game 47 = .ok (.goto 50, 3) := by decide +kernel
theorem dX11_game_50 : decode cX11_game 50 = .ok (.iconst 0, 1) := by decide +kernel
theorem dX11_game_51 : decode cX11_game 51 = .ok (.istore_n 3, 1) := by decide +kernel
theorem dX11_game_52 : decode cX11_game 52 = .ok (.iconst 0, 1) := by decide +kernel
theorem dX11_game_53 : decode cX11_game 53 = .ok (.istore 4, 2) := by decide +kernel
theorem dX11_game_55 : decode cX11_game 55 = .ok (.iload 4, 2) := by decide +kernel
theorem dX11_game_57 : decode cX11_game 57 = .ok (.iconst 4, 1) := by decide +kernel
theorem dX11_game_58 : decode cX11_game 58 = .ok (.if_icmp .ge 37, 3) := by decide +kernel
theorem dX11_game_61 : decode cX11_game 61 = .ok (.iload_n 3, 1) := by decide +kernel
theorem dX11_game_62 : decode cX11_game 62 = .ok (.aload_n 0, 1) := by decide +kernel
theorem dX11_game_63 : decode cX11_game 63 = .ok (.iload_n 2, 1) := by decide +kernel
theorem dX11_game_64 : decode cX11_game 64 = .ok (.iload_n 1, 1) := by decide +kernel
theorem dX11_game_65 : decode cX11_game 65 = .ok (.iload 4, 2) := by decide +kernel
theorem dX11_game_67 : decode cX11_game 67 = .ok (.iconst 2, 1) := by decide +kernel
theorem dX11_game_68 : decode cX11_game 68 = .ok (.idiv, 1) := by decide +kernel
theorem dX11_game_69 : decode cX11_game 69 = .ok (.iload 4, 2) := by decide +kernel
theorem dX11_game_71 : decode cX11_game 71 = .ok (.iconst 2, 1) := by decide +kernel
theorem dX11_game_72 : decode cX11_game 72 = .ok (.irem, 1) := by decide +kernel
theorem dX11_game_73 : decode cX11_game 73 = .ok (.invokevirtual 400, 3) := by decide +kernel
theorem dX11_game_76 : decode cX11_game 76 = .ok (.ifCond .eq 10, 3) := by decide +kernel
theorem dX11_game_79 : decode cX11_game 79 = .ok (.iconst 1, 1) := by decide +kernel
theorem dX11_game_80 : decode cX11_game 80 = .ok (.iload 4, 2) := by decide +kernel
theorem dX11_game_82 : decode cX11_game 82 = .ok (.ishl, 1) := by decide +kernel
theorem dX11_game_83 : decode cX11_game 83 = .ok (.goto 4, 3) := by decide +kernel
theorem dX11_game_86 : decode cX11_game 86 = .ok (.iconst 0, 1) := by decide +kernel
theorem dX11_game_87 : decode cX11_game 87 = .ok (.ior, 1) := by decide +kernel
theorem dX11_game_88 : decode cX11_game 88 = .ok (.istore_n 3, 1) := by decide +kernel
theorem dX11_game_89 : decode cX11_game 89 = .ok (.iinc 4 1, 3) := by decide +kernel
theorem dX11_game_92 : decode cX11_game 92 = .ok (.goto (-37), 3) := by decide +kernel
theorem dX11_game_95 : decode cX11_game 95 = .ok (.iload_n 3, 1) := by decide +kernel
theorem dX11_game_96 : decode cX11_game 96 = .ok (.ireturn, 1) := by decide +kernel
theorem dX11_game_97 : decode cX11_game 97 = .ok (.iinc 2 1, 3) := by decide +kernel
theorem dX11_game_100 : decode cX11_game 100 = .ok (.goto (-78), 3) := by decide +kernel
theorem dX11_game_103 : decode cX11_game 103 = .ok (.iconst (-1), 1) := by decide +kernel
theorem dX11_game_104 : decode cX11_game 104 = .ok (.ireturn, 1) := by decide +kernel
theorem dX11_crowd_0 : decode cX11_crowd 0 = .ok (.aload_n 0, 1) := by decide +kernel
theorem dX11_crowd_1 : decode cX11_crowd 1 = .ok (.iconst 0, 1) := by decide +kernel
theorem dX11_crowd_2 : decode cX11_crowd 2 = .ok (.putfield 3, 3) := by decide +kernel
theorem dX11_crowd_5 : decode cX11_crowd 5 = .ok (.iconst (-1), 1) := by decide +kernel
theorem dX11_crowd_6 : decode cX11_crowd 6 = .ok (.istore_n 1, 1) := by decide +kernel
theorem dX11_crowd_7 : decode cX11_crowd 7 = .ok (.iconst 0, 1) := by decide +kernel
theorem dX11_crowd_8 : decode cX11_crowd 8 = .ok (.istore_n 2, 1) := by decide +kernel
theorem dX11_crowd_9 : decode cX11_crowd 9 = .ok (.iconst 0, 1) := by decide +kernel
theorem dX11_crowd_10 : decode cX11_crowd 10 = .ok (.istore_n 3, 1) := by decide +kernel
theorem dX11_crowd_11 : decode cX11_crowd 11 = .ok (.iload_n 3, 1) := by decide +kernel
theorem dX11_crowd_12 : decode cX11_crowd 12 = .ok (.bipush 10, 2) := by decide +kernel
theorem dX11_crowd_14 : decode cX11_crowd 14 = .ok (.if_icmp .ge 79, 3) := by decide +kernel
theorem dX11_crowd_17 : decode cX11_crowd 17 = .ok (.iconst 0, 1) := by decide +kernel
theorem dX11_crowd_18 : decode cX11_crowd 18 = .ok (.istore 4, 2) := by decide +kernel
theorem dX11_crowd_20 : decode cX11_crowd 20 = .ok (.iconst 0, 1) := by decide +kernel
theorem dX11_crowd_21 : decode cX11_crowd 21 = .ok (.istore 5, 2) := by decide +kernel
theorem dX11_crowd_23 : decode cX11_crowd 23 = .ok (.iload 5, 2) := by decide +kernel
theorem dX11_crowd_25 : decode cX11_crowd 25 = .ok (.aload_n 0, 1) := by decide +kernel
theorem dX11_crowd_26 : decode cX11_crowd 26 = .ok (.invokevirtual 76, 3) := by decide +kernel
theorem dX11_crowd_29 : decode cX11_crowd 29 = .ok (.if_icmp .ge 39, 3) := by decide +kernel
theorem dX11_crowd_32 : decode cX11_crowd 32 = .ok (.iload 4, 2) := by decide +kernel
theorem dX11_crowd_34 : decode cX11_crowd 34 = .ok (.aload_n 0, 1) := by decide +kernel
theorem dX11_crowd_35 : decode cX11_crowd 35 = .ok (.iload 5, 2) := by decide +kernel
theorem dX11_crowd_37 : decode cX11_crowd 37 = .ok (.invokevirtual 268, 3) := by decide +kernel
theorem dX11_crowd_40 : decode cX11_crowd 40 = .ok (.ifCond .ne 18, 3) := by decide +kernel
theorem dX11_crowd_43 : decode cX11_crowd 43 = .ok (.aload_n 0, 1) := by decide +kernel
theorem dX11_crowd_44 : decode cX11_crowd 44 = .ok (.iload 5, 2) := by decide +kernel
theorem dX11_crowd_46 : decode cX11_crowd 46 = .ok (.iconst 0, 1) := by decide +kernel
theorem dX11_crowd_47 : decode cX11_crowd 47 = .ok (.invokevirtual 65, 3) := by decide +kernel
theorem dX11_crowd_50 : decode cX11_crowd 50 = .ok (.iload_n 3, 1) := by decide +kernel
theorem dX11_crowd_51 : decode cX11_crowd 51 = .ok (.if_icmp .ne 7, 3) := by decide +kernel
theorem dX11_crowd_54 : decode cX11_crowd 54 = .ok (.iconst 1, 1) := by decide +kernel
theorem dX11_crowd_55 : decode cX11_crowd 55 = .ok (.goto 4, 3) := by decide +kernel
theorem dX11_crowd_58 : decode cX11_crowd 58 = .ok (.iconst 0, 1) := by decide +kernel
theorem dX11_crowd_59 : decode cX11_crowd 59 = .ok (.iadd, 1) := by decide +kernel
theorem dX11_crowd_60 : decode cX11_crowd 60 = .ok (.istore 4, 2) := by decide +kernel
theorem dX11_crowd_62 : decode cX11_crowd 62 = .ok (.iinc 5 1, 3) := by decide +kernel
theorem dX11_crowd_65 : decode cX11_crowd 65 = .ok (.goto (-42), 3) := by decide +kernel
theorem dX11_crowd_68 : decode cX11_crowd 68 = .ok (.iload 4, 2) := by decide +kernel
theorem dX11_crowd_70 : decode cX11_crowd 70 = .ok (.iload_n 2, 1) := by decide +kernel
theorem dX11_crowd_71 : decode cX11_crowd 71 = .ok (.if_icmp .le 7, 3) := by decide +kernel
theorem dX11_crowd_74 : decode cX11_crowd 74 = .ok (.iload_n 3, 1) := by decide +kernel
theorem dX11_crowd_75 : decode cX11_crowd 75 = .ok (.goto 4, 3) := by decide +kernel
theorem dX11_crowd_78 : decode cX11_crowd 78 = .ok (.iload_n 1, 1) := by decide +kernel
theorem dX11_crowd_79 : decode cX11_crowd 79 = .ok (.istore_n 1, 1) := by decide +kernel
theorem dX11_crowd_80 : decode cX11_crowd 80 = .ok (.iload_n 2, 1) := by decide +kernel
theorem dX11_crowd_81 : decode cX11_crowd 81 = .ok (.iload 4, 2) := by decide +kernel
theorem dX11_crowd_83 : decode cX11_crowd 83 = .ok (.invokestatic 253, 3) := by decide +kernel
theorem dX11_crowd_86 : decode cX11_crowd 86 = .ok (.istore_n 2, 1) := by decide +kernel
theorem dX11_crowd_87 : decode cX11_crowd 87 = .ok (.iinc 3 1, 3) := by decide +kernel
theorem dX11_crowd_90 : decode cX11_crowd 90 = .ok (.goto (-79), 3) := by decide +kernel
theorem dX11_crowd_93 : decode cX11_crowd 93 = .ok (.iload_n 1, 1) := by decide +kernel
theorem dX11_crowd_94 : decode cX11_crowd 94 = .ok (.ireturn, 1) := by decide +kernel
theorem dX11_gaps_0 : decode cX11_gaps 0 = .ok (.aload_n 0, 1) := by decide +kernel
theorem dX11_gaps_1 : decode cX11_gaps 1 = .ok (.iconst 0, 1) := by decide +kernel
theorem dX11_gaps_2 : decode cX11_gaps 2 = .ok (.putfield 3, 3) := by decide +kernel
theorem dX11_gaps_5 : decode cX11_gaps 5 = .ok (.iconst 0, 1) := by decide +kernel
theorem dX11_gaps_6 : decode cX11_gaps 6 = .ok (.istore_n 1, 1) := by decide +kernel
theorem dX11_gaps_7 : decode cX11_gaps 7 = .ok (.iconst 0, 1) := by decide +kernel
theorem dX11_gaps_8 : decode cX11_gaps 8 = .ok (.istore_n 2, 1) := by decide +kernel
theorem dX11_gaps_9 : decode cX11_gaps 9 = .ok (.iload_n 2, 1) := by decide +kernel
theorem dX11_gaps_10 : decode cX11_gaps 10 = .ok (.bipush 10, 2) := by decide +kernel
theorem dX11_gaps_12 : decode cX11_gaps 12 = .ok (.if_icmp .ge 28, 3) := by decide +kernel
theorem dX11_gaps_15 : decode cX11_gaps 15 = .ok (.iload_n 1, 1) := by decide +kernel
theorem dX11_gaps_16 : decode cX11_gaps 16 = .ok (.aload_n 0, 1) := by decide +kernel
theorem dX11_gaps_17 : decode cX11_gaps 17 = .ok (.iload_n 2, 1) := by decide +kernel
theorem dX11_gaps_18 : decode cX11_gaps 18 = .ok (.invokevirtual 79, 3) := by decide +kernel
theorem dX11_gaps_21 : decode cX11_gaps 21 = .ok (.iconst (-1), 1) := by decide +kernel
theorem dX11_gaps_22 : decode cX11_gaps 22 = .ok (.if_icmp .ne 9, 3) := by decide +kernel
theorem dX11_gaps_25 : decode cX11_gaps 25 = .ok (.iconst 1, 1) := by decide +kernel
theorem dX11_gaps_26 : decode cX11_gaps 26 = .ok (.iload_n 2, 1) := by decide +kernel
theorem dX11_gaps_27 : decode cX11_gaps 27 = .ok (.ishl, 1) := by decide +kernel
theorem dX11_gaps_28 : decode cX11_gaps 28 = .ok (.goto 4, 3) := by decide +kernel
theorem dX11_gaps_31 : decode cX11_gaps 31 = .ok (.iconst 0, 1) := by decide +kernel
theorem dX11_gaps_32 : decode cX11_gaps 32 = .ok (.ior, 1) := by decide +kernel
theorem dX11_gaps_33 : decode cX11_gaps 33 = .ok (.istore_n 1, 1) := by decide +kernel
theorem dX11_gaps_34 : decode cX11_gaps 34 = .ok (.iinc 2 1, 3) := by decide +kernel
theorem dX11_gaps_37 : decode cX11_gaps 37 = .ok (.goto (-28), 3) := by decide +kernel
theorem dX11_gaps_40 : decode cX11_gaps 40 = .ok (.iload_n 1, 1) := by decide +kernel
theorem dX11_gaps_41 : decode cX11_gaps 41 = .ok (.ireturn, 1) := by decide +kernel
theorem dX11_meets_0 : decode cX11_meets 0 = .ok (.aload_n 0, 1) := by decide +kernel
theorem dX11_meets_1 : decode cX11_meets 1 = .ok (.iconst 0, 1) := by decide +kernel
theorem dX11_meets_2 : decode cX11_meets 2 = .ok (.putfield 3, 3) := by decide +kernel
theorem dX11_meets_5 : decode cX11_meets 5 = .ok (.aload_n 0, 1) := by decide +kernel
theorem dX11_meets_6 : decode cX11_meets 6 = .ok (.aload_n 0, 1) := by decide +kernel
theorem dX11_meets_7 : decode cX11_meets 7 = .ok (.iload_n 1, 1) := by decide +kernel
theorem dX11_meets_8 : decode cX11_meets 8 = .ok (.invokevirtual 274, 3) := by decide +kernel
theorem dX11_meets_11 : decode cX11_meets 11 = .ok (.iconst 1, 1) := by decide +kernel
theorem dX11_meets_12 : decode cX11_meets 12 = .ok (.invokevirtual 240, 3) := by decide +kernel
theorem dX11_meets_15 : decode cX11_meets 15 = .ok (.ifCond .eq 5, 3) := by decide +kernel
theorem dX11_meets_18 : decode cX11_meets 18 = .ok (.iconst 0, 1) := by decide +kernel
theorem dX11_meets_19 : decode cX11_meets 19 = .ok (.ireturn, 1) := by decide +kernel
theorem dX11_meets_20 : decode cX11_meets 20 = .ok (.iconst 0, 1) := by decide +kernel
theorem dX11_meets_21 : decode cX11_meets 21 = .ok (.istore_n 2, 1) := by decide +kernel
theorem dX11_meets_22 : decode cX11_meets 22 = .ok (.aload_n 0, 1) := by decide +kernel
theorem dX11_meets_23 : decode cX11_meets 23 = .ok (.invokevirtual 335, 3) := by decide +kernel
theorem dX11_meets_26 : decode cX11_meets 26 = .ok (.iconst 0, 1) := by decide +kernel
theorem dX11_meets_27 : decode cX11_meets 27 = .ok (.istore_n 3, 1) := by decide +kernel
theorem dX11_meets_28 : decode cX11_meets 28 = .ok (.iload_n 3, 1) := by decide +kernel
theorem dX11_meets_29 : decode cX11_meets 29 = .ok (.bipush 12, 2) := by decide +kernel
theorem dX11_meets_31 : decode cX11_meets 31 = .ok (.if_icmp .ge 69, 3) := by decide +kernel
theorem dX11_meets_34 : decode cX11_meets 34 = .ok (.iconst 0, 1) := by decide +kernel
theorem dX11_meets_35 : decode cX11_meets 35 = .ok (.istore 4, 2) := by decide +kernel
theorem dX11_meets_37 : decode cX11_meets 37 = .ok (.iload 4, 2) := by decide +kernel
theorem dX11_meets_39 : decode cX11_meets 39 = .ok (.aload_n 0, 1) := by decide +kernel
theorem dX11_meets_40 : decode cX11_meets 40 = .ok (.invokevirtual 76, 3) := by decide +kernel
theorem dX11_meets_43 : decode cX11_meets 43 = .ok (.if_icmp .ge 45, 3) := by decide +kernel
theorem dX11_meets_46 : decode cX11_meets 46 = .ok (.iload_n 2, 1) := by decide +kernel
theorem dX11_meets_47 : decode cX11_meets 47 = .ok (.aload_n 0, 1) := by decide +kernel
theorem dX11_meets_48 : decode cX11_meets 48 = .ok (.iload 4, 2) := by decide +kernel
theorem dX11_meets_50 : decode cX11_meets 50 = .ok (.invokevirtual 268, 3) := by decide +kernel
theorem dX11_meets_53 : decode cX11_meets 53 = .ok (.ifCond .ne 26, 3) := by decide +kernel
theorem dX11_meets_56 : decode cX11_meets 56 = .ok (.aload_n 0, 1) := by decide +kernel
theorem dX11_meets_57 : decode cX11_meets 57 = .ok (.iload 4, 2) := by decide +kernel
theorem dX11_meets_59 : decode cX11_meets 59 = .ok (.iconst 0, 1) := by decide +kernel
theorem dX11_meets_60 : decode cX11_meets 60 = .ok (.invokevirtual 65, 3) := by decide +kernel
theorem dX11_meets_63 : decode cX11_meets 63 = .ok (.aload_n 0, 1) := by decide +kernel
theorem dX11_meets_64 : decode cX11_meets 64 = .ok (.iload_n 1, 1) := by decide +kernel
theorem dX11_meets_65 : decode cX11_meets 65 = .ok (.iconst 0, 1) := by decide +kernel
theorem dX11_meets_66 : decode cX11_meets 66 = .ok (.invokevirtual 59, 3) := by decide +kernel
theorem dX11_meets_69 : decode cX11_meets 69 = .ok (.if_icmp .ne 10, 3) := by decide +kernel
theorem dX11_meets_72 : decode cX11_meets 72 = .ok (.iconst 1, 1) := by decide +kernel
theorem dX11_meets_73 : decode cX11_meets 73 = .ok (.iload 4, 2) := by decide +kernel
theorem dX11_meets_75 : decode cX11_meets 75 = .ok (.ishl, 1) := by decide +kernel
theorem dX11_meets_76 : decode cX11_meets 76 = .ok (.goto 4, 3) := by decide +kernel
theorem dX11_meets_79 : decode cX11_meets 79 = .ok (.iconst 0, 1) := by decide +kernel
theorem dX11_meets_80 : decode cX11_meets 80 = .ok (.ior, 1) := by decide +kernel
theorem dX11_meets_81 : decode cX11_meets 81 = .ok (.istore_n 2, 1) := by decide +kernel
theorem dX11_meets_82 : decode cX11_meets 82 = .ok (.iinc 4 1, 3) := by decide +kernel
theorem dX11_meets_85 : decode cX11_meets 85 = .ok (.goto (-48), 3) := by decide +kernel
theorem dX11_meets_88 : decode cX11_meets 88 = .ok (.aload_n 0, 1) := by decide +kernel
theorem dX11_meets_89 : decode cX11_meets 89 = .ok (.iconst 1, 1) := by decide +kernel
theorem dX11_meets_90 : decode cX11_meets 90 = .ok (.invokevirtual 327, 3) := by decide +kernel
theorem dX11_meets_93 : decode cX11_meets 93 = .ok (.pop, 1) := by decide +kernel
theorem dX11_meets_94 : decode cX11_meets 94 = .ok (.iinc 3 1, 3) := by decide +kernel
theorem dX11_meets_97 : decode cX11_meets 97 = .ok (.goto (-69), 3) := by decide +kernel
theorem dX11_meets_100 : decode cX11_meets 100 = .ok (.aload_n 0, 1) := by decide +kernel
theorem dX11_meets_101 : decode cX11_meets 101 = .ok (.invokevirtual 341, 3) := by decide +kernel
theorem dX11_meets_104 : decode cX11_meets 104 = .ok (.iload_n 2, 1) := by decide +kernel
theorem dX11_meets_105 : decode cX11_meets 105 = .ok (.ireturn, 1) := by decide +kernel
theorem dX11_trial_0 : decode cX11_trial 0 = .ok (.aload_n 0, 1) := by decide +kernel
theorem dX11_trial_1 : decode cX11_trial 1 = .ok (.iconst 0, 1) := by decide +kernel
theorem dX11_trial_2 : decode cX11_trial 2 = .ok (.putfield 3, 3) := by decide +kernel
theorem dX11_trial_5 : decode cX11_trial 5 = .ok (.aload_n 0, 1) := by decide +kernel
theorem dX11_trial_6 : decode cX11_trial 6 = .ok (.iload_n 1, 1) := by decide +kernel
theorem dX11_trial_7 : decode cX11_trial 7 = .ok (.invokestatic 350, 3) := by decide +kernel
theorem dX11_trial_10 : decode cX11_trial 10 = .ok (.iconst 1, 1) := by decide +kernel
theorem dX11_trial_11 : decode cX11_trial 11 = .ok (.invokevirtual 240, 3) := by decide +kernel
theorem dX11_trial_14 : decode cX11_trial 14 = .ok (.ifCond .eq 5, 3) := by decide +kernel
theorem dX11_trial_17 : decode cX11_trial 17 = .ok (.iconst 0, 1) := by decide +kernel
theorem dX11_trial_18 : decode cX11_trial 18 = .ok (.ireturn, 1) := by decide +kernel
theorem dX11_trial_19 : decode cX11_trial 19 = .ok (.aload_n 0, 1) := by decide +kernel
theorem dX11_trial_20 : decode cX11_trial 20 = .ok (.invokevirtual 335, 3) := by decide +kernel
theorem dX11_trial_23 : decode cX11_trial 23 = .ok (.aload_n 0, 1) := by decide +kernel
theorem dX11_trial_24 : decode cX11_trial 24 = .ok (.iload_n 1, 1) := by decide +kernel
theorem dX11_trial_25 : decode cX11_trial 25 = .ok (.iconst 0, 1) := by decide +kernel
theorem dX11_trial_26 : decode cX11_trial 26 = .ok (.invokevirtual 330, 3) := by decide +kernel
theorem dX11_trial_29 : decode cX11_trial 29 = .ok (.pop, 1) := by decide +kernel
theorem dX11_trial_30 : decode cX11_trial 30 = .ok (.iload_n 2, 1) := by decide +kernel
theorem dX11_trial_31 : decode cX11_trial 31 = .ok (.ifCond .eq 10, 3) := by decide +kernel
theorem dX11_trial_34 : decode cX11_trial 34 = .ok (.aload_n 0, 1) := by decide +kernel
theorem dX11_trial_35 : decode cX11_trial 35 = .ok (.invokevirtual 338, 3) := by decide +kernel
theorem dX11_trial_38 : decode cX11_trial 38 = .ok (.goto 10, 3) := by decide +kernel
theorem dX11_trial_41 : decode cX11_trial 41 = .ok (.aload_n 0, 1) := by decide +kernel
theorem dX11_trial_42 : decode cX11_trial 42 = .ok (.getfield 13, 3) := by decide +kernel
theorem dX11_trial_45 : decode cX11_trial 45 = .ok (.bipush 9, 2) := by decide +kernel
theorem dX11_trial_47 : decode cX11_trial 47 = .ok (.iaload, 1) := by decide +kernel
theorem dX11_trial_48 : decode cX11_trial 48 = .ok (.istore_n 3, 1) := by decide +kernel
theorem dX11_trial_49 : decode cX11_trial 49 = .ok (.aload_n 0, 1) := by decide +kernel
theorem dX11_trial_50 : decode cX11_trial 50 = .ok (.invokevirtual 341, 3) := by decide +kernel
theorem dX11_trial_53 : decode cX11_trial 53 = .ok (.iload_n 3, 1) := by decide +kernel
theorem dX11_trial_54 : decode cX11_trial 54 = .ok (.ireturn, 1) := by decide +kernel
theorem dX11_span_0 : decode cX11_span 0 = .ok (.aload_n 0, 1) := by decide +kernel
theorem dX11_span_1 : decode cX11_span 1 = .ok (.iconst 0, 1) := by decide +kernel
theorem dX11_span_2 : decode cX11_span 2 = .ok (.putfield 3, 3) := by decide +kernel
theorem dX11_span_5 : decode cX11_span 5 = .ok (.aload_n 0, 1) := by decide +kernel
theorem dX11_span_6 : decode cX11_span 6 = .ok (.iload_n 1, 1) := by decide +kernel
theorem dX11_span_7 : decode cX11_span 7 = .ok (.invokestatic 350, 3) := by decide +kernel
theorem dX11_span_10 : decode cX11_span 10 = .ok (.iconst 1, 1) := by decide +kernel
theorem dX11_span_11 : decode cX11_span 11 = .ok (.invokevirtual 240, 3) := by decide +kernel
theorem dX11_span_14 : decode cX11_span 14 = .ok (.ifCond .eq 5, 3) := by decide +kernel
theorem dX11_span_17 : decode cX11_span 17 = .ok (.iconst 0, 1) := by decide +kernel
theorem dX11_span_18 : decode cX11_span 18 = .ok (.ireturn, 1) := by decide +kernel
theorem dX11_span_19 : decode cX11_span 19 = .ok (.aload_n 0, 1) := by decide +kernel
theorem dX11_span_20 : decode cX11_span 20 = .ok (.invokevirtual 335, 3) := by decide +kernel
theorem dX11_span_23 : decode cX11_span 23 = .ok (.iconst (-1), 1) := by decide +kernel
theorem dX11_span_24 : decode cX11_span 24 = .ok (.istore_n 3, 1) := by decide +kernel
theorem dX11_span_25 : decode cX11_span 25 = .ok (.iconst 1, 1) := by decide +kernel
theorem dX11_span_26 : decode cX11_span 26 = .ok (.istore 4, 2) := by decide +kernel
theorem dX11_span_28 : decode cX11_span 28 = .ok (.iload 4, 2) := by decide +kernel
theorem dX11_span_30 : decode cX11_span 30 = .ok (.bipush 6, 2) := by decide +kernel
theorem dX11_span_32 : decode cX11_span 32 = .ok (.if_icmp .gt 67, 3) := by decide +kernel
theorem dX11_span_35 : decode cX11_span 35 = .ok (.aload_n 0, 1) := by decide +kernel
theorem dX11_span_36 : decode cX11_span 36 = .ok (.getfield 13, 3) := by decide +kernel
theorem dX11_span_39 : decode cX11_span 39 = .ok (.bipush 11, 2) := by decide +kernel
theorem dX11_span_41 : decode cX11_span 41 = .ok (.iload 4, 2) := by decide +kernel
theorem dX11_span_43 : decode cX11_span 43 = .ok (.iastore, 1) := by decide +kernel
theorem dX11_span_44 : decode cX11_span 44 = .ok (.aload_n 0, 1) := by decide +kernel
theorem dX11_span_45 : decode cX11_span 45 = .ok (.iload_n 1, 1) := by decide +kernel
theorem dX11_span_46 : decode cX11_span 46 = .ok (.iconst 0, 1) := by decide +kernel
theorem dX11_span_47 : decode cX11_span 47 = .ok (.invokevirtual 330, 3) := by decide +kernel
theorem dX11_span_50 : decode cX11_span 50 = .ok (.pop, 1) := by decide +kernel
theorem dX11_span_51 : decode cX11_span 51 = .ok (.aload_n 0, 1) := by decide +kernel
theorem dX11_span_52 : decode cX11_span 52 = .ok (.getfield 13, 3) := by decide +kernel
theorem dX11_span_55 : decode cX11_span 55 = .ok (.bipush 9, 2) := by decide +kernel
theorem dX11_span_57 : decode cX11_span 57 = .ok (.iaload, 1) := by decide +kernel
theorem dX11_span_58 : decode cX11_span 58 = .ok (.istore 5, 2) := by decide +kernel
theorem dX11_span_60 : decode cX11_span 60 = .ok (.aload_n 0, 1) := by decide +kernel
theorem dX11_span_61 : decode cX11_span 61 = .ok (.invokevirtual 341, 3) := by decide +kernel
theorem dX11_span_64 : decode cX11_span 64 = .ok (.iload_n 3, 1) := by decide +kernel
theorem dX11_span_65 : decode cX11_span 65 = .ok (.ifCond .ge 8, 3) := by decide +kernel
theorem dX11_span_68 : decode cX11_span 68 = .ok (.iload 5, 2) := by decide +kernel
theorem dX11_span_70 : decode cX11_span 70 = .ok (.goto 22, 3) := by decide +kernel
theorem dX11_span_73 : decode cX11_span 73 = .ok (.iload_n 2, 1) := by decide +kernel
theorem dX11_span_74 : decode cX11_span 74 = .ok (.ifCond .eq 12, 3) := by decide +kernel
theorem dX11_span_77 : decode cX11_span 77 = .ok (.iload_n 3, 1) := by decide +kernel
theorem dX11_span_78 : decode cX11_span 78 = .ok (.iload 5, 2) := by decide +kernel
theorem dX11_span_80 : decode cX11_span 80 = .ok (.invokestatic 253, 3) := by decide +kernel
theorem dX11_span_83 : decode cX11_span 83 = .ok (.goto 9, 3) := by decide +kernel
theorem dX11_span_86 : decode cX11_span 86 = .ok (.iload_n 3, 1) := by decide +kernel
theorem dX11_span_87 : decode cX11_span 87 = .ok (.iload 5, 2) := by decide +kernel
theorem dX11_span_89 : decode cX11_span 89 = .ok (.invokestatic 262, 3) := by decide +kernel
theorem dX11_span_92 : decode cX11_span 92 = .ok (.istore_n 3, 1) := by decide +kernel
theorem dX11_span_93 : decode cX11_span 93 = .ok (.iinc 4 1, 3) := by decide +kernel
theorem dX11_span_96 : decode cX11_span 96 = .ok (.goto (-68), 3) := by decide +kernel
theorem dX11_span_99 : decode cX11_span 99 = .ok (.iload_n 3, 1) := by decide +kernel
theorem dX11_span_100 : decode cX11_span 100 = .ok (.ireturn, 1) := by decide +kernel
theorem dX11_ofLog_0 : decode cX11_ofLog 0 = .ok (.aload_n 0, 1) := by decide +kernel
theorem dX11_ofLog_1 : decode cX11_ofLog 1 = .ok (.getfield 13, 3) := by decide +kernel
theorem dX11_ofLog_4 : decode cX11_ofLog 4 = .ok (.bipush 109, 2) := by decide +kernel
theorem dX11_ofLog_6 : decode cX11_ofLog 6 = .ok (.iconst 5, 1) := by decide +kernel
theorem dX11_ofLog_7 : decode cX11_ofLog 7 = .ok (.iload_n 1, 1) := by decide +kernel
theorem dX11_ofLog_8 : decode cX11_ofLog 8 = .ok (.imul, 1) := by decide +kernel
theorem dX11_ofLog_9 : decode cX11_ofLog 9 = .ok (.iadd, 1) := by decide +kernel
theorem dX11_ofLog_10 : decode cX11_ofLog 10 = .ok (.iload_n 2, 1) := by decide +kernel
theorem dX11_ofLog_11 : decode cX11_ofLog 11 = .ok (.iadd, 1) := by decide +kernel
theorem dX11_ofLog_12 : decode cX11_ofLog 12 = .ok (.iaload, 1) := by decide +kernel
theorem dX11_ofLog_13 : decode cX11_ofLog 13 = .ok (.ireturn, 1) := by decide +kernel
theorem dX11_led_0 : decode cX11_led 0 = .ok (.aload_n 0, 1) := by decide +kernel
theorem dX11_led_1 : decode cX11_led 1 = .ok (.iconst 0, 1) := by decide +kernel
theorem dX11_led_2 : decode cX11_led 2 = .ok (.putfield 3, 3) := by decide +kernel
theorem dX11_led_5 : decode cX11_led 5 = .ok (.aload_n 0, 1) := by decide +kernel
theorem dX11_led_6 : decode cX11_led 6 = .ok (.aload_n 0, 1) := by decide +kernel
theorem dX11_led_7 : decode cX11_led 7 = .ok (.iload_n 1, 1) := by decide +kernel
theorem dX11_led_8 : decode cX11_led 8 = .ok (.invokevirtual 283, 3) := by decide +kernel
theorem dX11_led_11 : decode cX11_led 11 = .ok (.iconst 1, 1) := by decide +kernel
theorem dX11_led_12 : decode cX11_led 12 = .ok (.invokevirtual 240, 3) := by decide +kernel
theorem dX11_led_15 : decode cX11_led 15 = .ok (.ifCond .eq 5, 3) := by decide +kernel
theorem dX11_led_18 : decode cX11_led 18 = .ok (.iconst 0, 1) := by decide +kernel
theorem dX11_led_19 : decode cX11_led 19 = .ok (.ireturn, 1) := by decide +kernel
theorem dX11_led_20 : decode cX11_led 20 = .ok (.iconst 0, 1) := by decide +kernel
theorem dX11_led_21 : decode cX11_led 21 = .ok (.istore_n 3, 1) := by decide +kernel
theorem dX11_led_22 : decode cX11_led 22 = .ok (.iconst (-1), 1) := by decide +kernel
theorem dX11_led_23 : decode cX11_led 23 = .ok (.istore 4, 2) := by decide +kernel
theorem dX11_led_25 : decode cX11_led 25 = .ok (.aload_n 0, 1) := by decide +kernel
theorem dX11_led_26 : decode cX11_led 26 = .ok (.getfield 13, 3) := by decide +kernel
theorem dX11_led_29 : decode cX11_led 29 = .ok (.bipush 10, 2) := by decide +kernel
theorem dX11_led_31 : decode cX11_led 31 = .ok (.iaload, 1) := by decide +kernel
theorem dX11_led_32 : decode cX11_led 32 = .ok (.iconst 1, 1) := by decide +kernel
theorem dX11_led_33 : decode cX11_led 33 = .ok (.isub, 1) := by decide +kernel
theorem dX11_led_34 : decode cX11_led 34 = .ok (.istore 5, 2) := by decide +kernel
theorem dX11_led_36 : decode cX11_led 36 = .ok (.iload 5, 2) := by decide +kernel
theorem dX11_led_38 : decode cX11_led 38 = .ok (.ifCond .lt 35, 3) := by decide +kernel
theorem dX11_led_41 : decode cX11_led 41 = .ok (.aload_n 0, 1) := by decide +kernel
theorem dX11_led_42 : decode cX11_led 42 = .ok (.iload 5, 2) := by decide +kernel
theorem dX11_led_44 : decode cX11_led 44 = .ok (.iconst 3, 1) := by decide +kernel
theorem dX11_led_45 : decode cX11_led 45 = .ok (.invokevirtual 404, 3) := by decide +kernel
theorem dX11_led_48 : decode cX11_led 48 = .ok (.iload_n 1, 1) := by decide +kernel
theorem dX11_led_49 : decode cX11_led 49 = .ok (.if_icmp .eq 6, 3) := by decide +kernel
theorem dX11_led_52 : decode cX11_led 52 = .ok (.goto 15, 3) := by decide +kernel
theorem dX11_led_55 : decode cX11_led 55 = .ok (.iinc 3 1, 3) := by decide +kernel
theorem dX11_led_58 : decode cX11_led 58 = .ok (.aload_n 0, 1) := by decide +kernel
theorem dX11_led_59 : decode cX11_led 59 = .ok (.iload 5, 2) := by decide +kernel
theorem dX11_led_61 : decode cX11_led 61 = .ok (.iconst 0, 1) := by decide +kernel
theorem dX11_led_62 : decode cX11_led 62 = .ok (.invokevirtual 404, 3) := by decide +kernel
theorem dX11_led_65 : decode cX11_led 65 = .ok (.istore 4, 2) := by decide +kernel
theorem dX11_led_67 : decode cX11_led 67 = .ok (.iinc 5 (-1), 3) := by decide +kernel
theorem dX11_led_70 : decode cX11_led 70 = .ok (.goto (-34), 3) := by decide +kernel
theorem dX11_led_73 : decode cX11_led 73 = .ok (.iload_n 2, 1) := by decide +kernel
theorem dX11_led_74 : decode cX11_led 74 = .ok (.ifCond .eq 8, 3) := by decide +kernel
theorem dX11_led_77 : decode cX11_led 77 = .ok (.iload 4, 2) := by decide +kernel
theorem dX11_led_79 : decode cX11_led 79 = .ok (.goto 4, 3) := by decide +kernel
theorem dX11_led_82 : decode cX11_led 82 = .ok (.iload_n 3, 1) := by decide +kernel
theorem dX11_led_83 : decode cX11_led 83 = .ok (.ireturn, 1) := by decide +kernel
theorem dX11_log_0 : decode cX11_log 0 = .ok (.aload_n 0, 1) := by decide +kernel
theorem dX11_log_1 : decode cX11_log 1 = .ok (.iconst 0, 1) := by decide +kernel
theorem dX11_log_2 : decode cX11_log 2 = .ok (.putfield 3, 3) := by decide +kernel
theorem dX11_log_5 : decode cX11_log 5 = .ok (.aload_n 0, 1) := by decide +kernel
theorem dX11_log_6 : decode cX11_log 6 = .ok (.iload_n 2, 1) := by decide +kernel
theorem dX11_log_7 : decode cX11_log 7 = .ok (.iconst 0, 1) := by decide +kernel
theorem dX11_log_8 : decode cX11_log 8 = .ok (.iconst 4, 1) := by decide +kernel
theorem dX11_log_9 : decode cX11_log 9 = .ok (.invokestatic 72, 3) := by decide +kernel
theorem dX11_log_12 : decode cX11_log 12 = .ok (.ifCond .ne 7, 3) := by decide +kernel
theorem dX11_log_15 : decode cX11_log 15 = .ok (.iconst 1, 1) := by decide +kernel
theorem dX11_log_16 : decode cX11_log 16 = .ok (.goto 4, 3) := by decide +kernel
theorem dX11_log_19 : decode cX11_log 19 = .ok (.iconst 0, 1) := by decide +kernel
theorem dX11_log_20 : decode cX11_log 20 = .ok (.iconst 1, 1) := by decide +kernel
theorem dX11_log_21 : decode cX11_log 21 = .ok (.invokevirtual 240, 3) := by decide +kernel
theorem dX11_log_24 : decode cX11_log 24 = .ok (.ifCond .eq 5, 3) := by decide +kernel
theorem dX11_log_27 : decode cX11_log 27 = .ok (.iconst 0, 1) := by decide +kernel
theorem dX11_log_28 : decode cX11_log 28 = .ok (.ireturn, 1) := by decide +kernel
theorem dX11_log_29 : decode cX11_log 29 = .ok (.iload_n 1, 1) := by decide +kernel
theorem dX11_log_30 : decode cX11_log 30 = .ok (.iconst 0, 1) := by decide +kernel
theorem dX11_log_31 : decode cX11_log 31 = .ok (.aload_n 0, 1) := by decide +kernel
theorem dX11_log_32 : decode cX11_log 32 = .ok (.getfield 13, 3) := by decide +kernel
theorem dX11_log_35 : decode cX11_log 35 = .ok (.bipush 10, 2) := by decide +kernel
theorem dX11_log_37 : decode cX11_log 37 = .ok (.iaload, 1) := by decide +kernel
theorem dX11_log_38 : decode cX11_log 38 = .ok (.iconst 1, 1) := by decide +kernel
theorem dX11_log_39 : decode cX11_log 39 = .ok (.isub, 1) := by decide +kernel
theorem dX11_log_40 : decode cX11_log 40 = .ok (.invokestatic 72, 3) := by decide +kernel
theorem dX11_log_43 : decode cX11_log 43 = .ok (.ifCond .eq 12, 3) := by decide +kernel
theorem dX11_log_46 : decode cX11_log 46 = .ok (.aload_n 0, 1) := by decide +kernel
theorem dX11_log_47 : decode cX11_log 47 = .ok (.iload_n 1, 1) := by decide +kernel
theorem dX11_log_48 : decode cX11_log 48 = .ok (.iload_n 2, 1) := by decide +kernel
theorem dX11_log_49 : decode cX11_log 49 = .ok (.invokevirtual 404, 3) := by decide +kernel
theorem dX11_log_52 : decode cX11_log 52 = .ok (.goto 4, 3) := by decide +kernel
theorem dX11_log_55 : decode cX11_log 55 = .ok (.iconst (-1), 1) := by decide +kernel
theorem dX11_log_56 : decode cX11_log 56 = .ok (.ireturn, 1) := by decide +kernel
theorem dX11_seed_0 : decode cX11_seed 0 = .ok (.aload_n 0, 1) := by decide +kernel
theorem dX11_seed_1 : decode cX11_seed 1 = .ok (.iconst 0, 1) := by decide +kernel
theorem dX11_seed_2 : decode cX11_seed 2 = .ok (.putfield 3, 3) := by decide +kernel
theorem dX11_seed_5 : decode cX11_seed 5 = .ok (.aload_n 0, 1) := by decide +kernel
theorem dX11_seed_6 : decode cX11_seed 6 = .ok (.getfield 13, 3) := by decide +kernel
theorem dX11_seed_9 : decode cX11_seed 9 = .ok (.bipush 11, 2) := by decide +kernel
theorem dX11_seed_11 : decode cX11_seed 11 = .ok (.iaload, 1) := by decide +kernel
theorem dX11_seed_12 : decode cX11_seed 12 = .ok (.istore_n 2, 1) := by decide +kernel
theorem dX11_seed_13 : decode cX11_seed 13 = .ok (.aload_n 0, 1) := by decide +kernel
theorem dX11_seed_14 : decode cX11_seed 14 = .ok (.getfield 13, 3) := by decide +kernel
theorem dX11_seed_17 : decode cX11_seed 17 = .ok (.bipush 11, 2) := by decide +kernel
theorem dX11_seed_19 : decode cX11_seed 19 = .ok (.iload_n 1, 1) := by decide +kernel
theorem dX11_seed_20 : decode cX11_seed 20 = .ok (.iastore, 1) := by decide +kernel
theorem dX11_seed_21 : decode cX11_seed 21 = .ok (.iload_n 2, 1) := by decide +kernel
theorem dX11_seed_22 : decode cX11_seed 22 = .ok (.ireturn, 1) := by decide +kernel
theorem dX11_count_0 : decode cX11_count 0 = .ok (.aload_n 0, 1) := by decide +kernel
theorem dX11_count_1 : decode cX11_count 1 = .ok (.iconst 0, 1) := by decide +kernel
theorem dX11_count_2 : decode cX11_count 2 = .ok (.putfield 3, 3) := by decide +kernel
theorem dX11_count_5 : decode cX11_count 5 = .ok (.iload_n 1, 1) := by decide +kernel
theorem dX11_count_6 : decode cX11_count 6 = .ok (.tableswitch 104 3 13 #[58, 104, 104, 104, 104, 104, 104, 81, 86, 91, 99], 58) := by decide +kernel
theorem dX11_count_64 : decode cX11_count 64 = .ok (.aload_n 0, 1) := by decide +kernel
theorem dX11_count_65 : decode cX11_count 65 = .ok (.getfield 13, 3) := by decide +kernel
theorem dX11_count_68 : decode cX11_count 68 = .ok (.iconst 3, 1) := by decide +kernel
theorem dX11_count_69 : decode cX11_count 69 = .ok (.iaload, 1) := by decide +kernel
theorem dX11_count_70 : decode cX11_count 70 = .ok (.iconst 1, 1) := by decide +kernel
theorem dX11_count_71 : decode cX11_count 71 = .ok (.if_icmp .ne 14, 3) := by decide +kernel
theorem dX11_count_74 : decode cX11_count 74 = .ok (.aload_n 0, 1) := by decide +kernel
theorem dX11_count_75 : decode cX11_count 75 = .ok (.getfield 13, 3) := by decide +kernel
theorem dX11_count_78 : decode cX11_count 78 = .ok (.sipush 409, 3) := by decide +kernel
theorem dX11_count_81 : decode cX11_count 81 = .ok (.iaload, 1) := by decide +kernel
theorem dX11_count_82 : decode cX11_count 82 = .ok (.goto 4, 3) := by decide +kernel
theorem dX11_count_85 : decode cX11_count 85 = .ok (.iconst (-1), 1) := by decide +kernel
theorem dX11_count_86 : decode cX11_count 86 = .ok (.ireturn, 1) := by decide +kernel
theorem dX11_count_87 : decode cX11_count 87 = .ok (.aload_n 0, 1) := by decide +kernel
theorem dX11_count_88 : decode cX11_count 88 = .ok (.invokevirtual 388, 3) := by decide +kernel
theorem dX11_count_91 : decode cX11_count 91 = .ok (.ireturn, 1) := by decide +kernel
theorem dX11_count_92 : decode cX11_count 92 = .ok (.aload_n 0, 1) := by decide +kernel
theorem dX11_count_93 : decode cX11_count 93 = .ok (.invokevirtual 359, 3) := by decide +kernel
theorem dX11_count_96 : decode cX11_count 96 = .ok (.ireturn, 1) := by decide +kernel
theorem dX11_count_97 : decode cX11_count 97 = .ok (.aload_n 0, 1) := by decide +kernel
theorem dX11_count_98 : decode cX11_count 98 = .ok (.getfield 13, 3) := by decide +kernel
theorem dX11_count_101 : decode cX11_count 101 = .ok (.bipush 10, 2) := by decide +kernel
theorem dX11_count_103 : decode cX11_count 103 = .ok (.iaload, 1) := by decide +kernel
theorem dX11_count_104 : decode cX11_count 104 = .ok (.ireturn, 1) := by decide +kernel
theorem dX11_count_105 : decode cX11_count 105 = .ok (.aload_n 0, 1) := by decide +kernel
theorem dX11_count_106 : decode cX11_count 106 = .ok (.getfield 52, 3) := by decide +kernel
theorem dX11_count_109 : decode cX11_count 109 = .ok (.ireturn, 1) := by decide +kernel
theorem dX11_count_110 : decode cX11_count 110 = .ok (.iload_n 1, 1) := by decide +kernel
theorem dX11_count_111 : decode cX11_count 111 = .ok (.iconst 0, 1) := by decide +kernel
theorem dX11_count_112 : decode cX11_count 112 = .ok (.bipush 9, 2) := by decide +kernel
theorem dX11_count_114 : decode cX11_count 114 = .ok (.invokestatic 72, 3) := by decide +kernel
theorem dX11_count_117 : decode cX11_count 117 = .ok (.ifCond .eq 12, 3) := by decide +kernel
theorem dX11_count_120 : decode cX11_count 120 = .ok (.aload_n 0, 1) := by decide +kernel
theorem dX11_count_121 : decode cX11_count 121 = .ok (.getfield 13, 3) := by decide +kernel
theorem dX11_count_124 : decode cX11_count 124 = .ok (.iload_n 1, 1) := by decide +kernel
theorem dX11_count_125 : decode cX11_count 125 = .ok (.iaload, 1) := by decide +kernel
theorem dX11_count_126 : decode cX11_count 126 = .ok (.goto 4, 3) := by decide +kernel
theorem dX11_count_129 : decode cX11_count 129 = .ok (.iconst (-1), 1) := by decide +kernel
theorem dX11_count_130 : decode cX11_count 130 = .ok (.ireturn, 1) := by decide +kernel
