theorem dX7_sign_0 : decode cX7_sign 0 = .ok (.iload_n 1, 1) := by decide +kernel
theorem dX7_sign_1 : decode cX7_sign 1 = .ok (.aload_n 0, 1) := by decide +kernel
theorem dX7_sign_2 : decode cX7_sign 2 = .ok (.getfield 1, 3) := by decide +kernel
theorem dX7_sign_5 : decode cX7_sign 5 = .ok (.if_icmp .ge 16, 3) := by decide +kernel
theorem dX7_sign_8 : decode cX7_sign 8 = .ok (.aload_n 0, 1) := by decide +kernel
theorem dX7_sign_9 : decode cX7_sign 9 = .ok (.getfield 7, 3) := by decide +kernel
theorem dX7_sign_12 : decode cX7_sign 12 = .ok (.iload_n 1, 1) := by decide +kernel
theorem dX7_sign_13 : decode cX7_sign 13 = .ok (.baload, 1) := by decide +kernel
theorem dX7_sign_14 : decode cX7_sign 14 = .ok (.sipush 255, 3) := by decide +kernel
theorem dX7_sign_17 : decode cX7_sign 17 = .ok (.iand, 1) := by decide +kernel
theorem dX7_sign_18 : decode cX7_sign 18 = .ok (.goto 4, 3) := by decide +kernel
theorem dX7_sign_21 : decode cX7_sign 21 = .ok (.iconst 0, 1) := by decide +kernel
theorem dX7_sign_22 : decode cX7_sign 22 = .ok (.ireturn, 1) := by decide +kernel
theorem dX7_isLetter_0 : decode cX7_isLetter 0 = .ok (.iload_n 0, 1) := by decide +kernel
theorem dX7_isLetter_1 : decode cX7_isLetter 1 = .ok (.bipush 97, 2) := by decide +kernel
theorem dX7_isLetter_3 : decode cX7_isLetter 3 = .ok (.if_icmp .lt 13, 3) := by decide +kernel
theorem dX7_isLetter_6 : decode cX7_isLetter 6 = .ok (.iload_n 0, 1) := by decide +kernel
theorem dX7_isLetter_7 : decode cX7_isLetter 7 = .ok (.bipush 122, 2) := by decide +kernel
theorem dX7_isLetter_9 : decode cX7_isLetter 9 = .ok (.if_icmp .gt 7, 3) := by decide +kernel
theorem dX7_isLetter_12 : decode cX7_isLetter 12 = .ok (.iconst 1, 1) := by decide +kernel
theorem dX7_isLetter_13 : decode cX7_isLetter 13 = .ok (.goto 4, 3) := by decide +kernel
theorem dX7_isLetter_16 : decode cX7_isLetter 16 = .ok (.iconst 0, 1) := by decide +kernel
theorem dX7_isLetter_17 : decode cX7_isLetter 17 = .ok (.ireturn, 1) := by decide +kernel
theorem dX7_isDigit_0 : decode cX7_isDigit 0 = .ok (.iload_n 0, 1) := by decide +kernel
theorem dX7_isDigit_1 : decode cX7_isDigit 1 = .ok (.bipush 48, 2) := by decide +kernel
theorem dX7_isDigit_3 : decode cX7_isDigit 3 = .ok (.if_icmp .lt 13, 3) := by decide +kernel
theorem dX7_isDigit_6 : decode cX7_isDigit 6 = .ok (.iload_n 0, 1) := by decide +kernel
theorem dX7_isDigit_7 : decode cX7_isDigit 7 = .ok (.bipush 57, 2) := by decide +kernel
theorem dX7_isDigit_9 : decode cX7_isDigit 9 = .ok (.if_icmp .gt 7, 3) := by decide +kernel
theorem dX7_isDigit_12 : decode cX7_isDigit 12 = .ok (.iconst 1, 1) := by decide +kernel
theorem dX7_isDigit_13 : decode cX7_isDigit 13 = .ok (.goto 4, 3) := by decide +kernel
theorem dX7_isDigit_16 : decode cX7_isDigit 16 = .ok (.iconst 0, 1) := by decide +kernel
theorem dX7_isDigit_17 : decode cX7_isDigit 17 = .ok (.ireturn, 1) := by decide +kernel
theorem dX7_fails_0 : decode cX7_fails 0 = .ok (.aload_n 0, 1) := by decide +kernel
theorem dX7_fails_1 : decode cX7_fails 1 = .ok (.getfield 11, 3) := by decide +kernel
theorem dX7_fails_4 : decode cX7_fails 4 = .ok (.ifCond .le 4, 3) := by decide +kernel
theorem dX7_fails_7 : decode cX7_fails 7 = .ok (.return_, 1) := by decide +kernel
theorem dX7_fails_8 : decode cX7_fails 8 = .ok (.aload_n 0, 1) := by decide +kernel
theorem dX7_fails_9 : decode cX7_fails 9 = .ok (.iload_n 1, 1) := by decide +kernel
theorem dX7_fails_10 : decode cX7_fails 10 = .ok (.putfield 11, 3) := by decide +kernel
theorem dX7_fails_13 : decode cX7_fails 13 = .ok (.aload_n 0, 1) := by decide +kernel
theorem dX7_fails_14 : decode cX7_fails 14 = .ok (.iload_n 2, 1) := by decide +kernel
theorem dX7_fails_15 : decode cX7_fails 15 = .ok (.putfield 14, 3) := by decide +kernel
theorem dX7_fails_18 : decode cX7_fails 18 = .ok (.return_, 1) := by decide +kernel
theorem dX7_isGood_0 : decode cX7_isGood 0 = .ok (.aload_n 0, 1) := by decide +kernel
theorem dX7_isGood_1 : decode cX7_isGood 1 = .ok (.getfield 11, 3) := by decide +kernel
theorem dX7_isGood_4 : decode cX7_isGood 4 = .ok (.ifCond .ne 7, 3) := by decide +kernel
theorem dX7_isGood_7 : decode cX7_isGood 7 = .ok (.iconst 1, 1) := by decide +kernel
theorem dX7_isGood_8 : decode cX7_isGood 8 = .ok (.goto 4, 3) := by decide +kernel
theorem dX7_isGood_11 : decode cX7_isGood 11 = .ok (.iconst 0, 1) := by decide +kernel
theorem dX7_isGood_12 : decode cX7_isGood 12 = .ok (.ireturn, 1) := by decide +kernel
theorem dX7_isKept_0 : decode cX7_isKept 0 = .ok (.lload_n 0, 1) := by decide +kernel
theorem dX7_isKept_1 : decode cX7_isKept 1 = .ok (.ldc2_w 17, 3) := by decide +kernel
theorem dX7_isKept_4 : decode cX7_isKept 4 = .ok (.lcmp, 1) := by decide +kernel
theorem dX7_isKept_5 : decode cX7_isKept 5 = .ok (.ifCond .eq 83, 3) := by decide +kernel
theorem dX7_isKept_8 : decode cX7_isKept 8 = .ok (.lload_n 0, 1) := by decide +kernel
theorem dX7_isKept_9 : decode cX7_isKept 9 = .ok (.ldc2_w 19, 3) := by decide +kernel
theorem dX7_isKept_12 : decode cX7_isKept 12 = .ok (.lcmp, 1) := by decide +kernel
theorem dX7_isKept_13 : decode cX7_isKept 13 = .ok (.ifCond .eq 75, 3) := by decide +kernel
theorem dX7_isKept_16 : decode cX7_isKept 16 = .ok (.lload_n 0, 1) := by decide +kernel
theorem dX7_isKept_17 : decode cX7_isKept 17 = .ok (.ldc2_w 21, 3) := by decide +kernel
theorem dX7_isKept_20 : decode cX7_isKept 20 = .ok (.lcmp, 1) := by decide +kernel
theorem dX7_isKept_21 : decode cX7_isKept 21 = .ok (.ifCond .eq 67, 3) := by decide +kernel
theorem dX7_isKept_24 : decode cX7_isKept 24 = .ok (.lload_n 0, 1) := by decide +kernel
theorem dX7_isKept_25 : decode cX7_isKept 25 = .ok (.ldc2_w 23, 3) := by decide +kernel
theorem dX7_isKept_28 : decode cX7_isKept 28 = .ok (.lcmp, 1) := by decide +kernel
theorem dX7_isKept_29 : decode cX7_isKept 29 = .ok (.ifCond .eq 59, 3) := by decide +kernel
theorem dX7_isKept_32 : decode cX7_isKept 32 = .ok (.lload_n 0, 1) := by decide +kernel
theorem dX7_isKept_33 : decode cX7_isKept 33 = .ok (.ldc2_w 25, 3) := by decide +kernel
theorem dX7_isKept_36 : decode cX7_isKept 36 = .ok (.lcmp, 1) := by decide +kernel
theorem dX7_isKept_37 : decode cX7_isKept 37 = .ok (.ifCond .eq 51, 3) := by decide +kernel
theorem dX7_isKept_40 : decode cX7_isKept 40 = .ok (.lload_n 0, 1) := by decide +kernel
theorem dX7_isKept_41 : decode cX7_isKept 41 = .ok (.ldc2_w 27, 3) := by decide +kernel
theorem dX7_isKept_44 : decode cX7_isKept 44 = .ok (.lcmp, 1) := by decide +kernel
theorem dX7_isKept_45 : decode cX7_isKept 45 = .ok (.ifCond .eq 43, 3) := by decide +kernel
theorem dX7_isKept_48 : decode cX7_isKept 48 = .ok (.lload_n 0, 1) := by decide +kernel
theorem dX7_isKept_49 : decode cX7_isKept 49 = .ok (.ldc2_w 29, 3) := by decide +kernel
theorem dX7_isKept_52 : decode cX7_isKept 52 = .ok (.lcmp, 1) := by decide +kernel
theorem dX7_isKept_53 : decode cX7_isKept 53 = .ok (.ifCond .eq 35, 3) := by decide +kernel
theorem dX7_isKept_56 : decode cX7_isKept 56 = .ok (.lload_n 0, 1) := by decide +kernel
theorem dX7_isKept_57 : decode cX7_isKept 57 = .ok (.ldc2_w 31, 3) := by decide +kernel
theorem dX7_isKept_60 : decode cX7_isKept 60 = .ok (.lcmp, 1) := by decide +kernel
theorem dX7_isKept_61 : decode cX7_isKept 61 = .ok (.ifCond .eq 27, 3) := by decide +kernel
theorem dX7_isKept_64 : decode cX7_isKept 64 = .ok (.lload_n 0, 1) := by decide +kernel
theorem dX7_isKept_65 : decode cX7_isKept 65 = .ok (.ldc2_w 33, 3) := by decide +kernel
theorem dX7_isKept_68 : decode cX7_isKept 68 = .ok (.lcmp, 1) := by decide +kernel
theorem dX7_isKept_69 : decode cX7_isKept 69 = .ok (.ifCond .eq 19, 3) := by decide +kernel
theorem dX7_isKept_72 : decode cX7_isKept 72 = .ok (.lload_n 0, 1) := by decide +kernel
theorem dX7_isKept_73 : decode cX7_isKept 73 = .ok (.ldc2_w 35, 3) := by decide +kernel
theorem dX7_isKept_76 : decode cX7_isKept 76 = .ok (.lcmp, 1) := by decide +kernel
theorem dX7_isKept_77 : decode cX7_isKept 77 = .ok (.ifCond .eq 11, 3) := by decide +kernel
theorem dX7_isKept_80 : decode cX7_isKept 80 = .ok (.lload_n 0, 1) := by decide +kernel
theorem dX7_isKept_81 : decode cX7_isKept 81 = .ok (.ldc2_w 37, 3) := by decide +kernel
theorem dX7_isKept_84 : decode cX7_isKept 84 = .ok (.lcmp, 1) := by decide +kernel
theorem dX7_isKept_85 : decode cX7_isKept 85 = .ok (.ifCond .ne 7, 3) := by decide +kernel
theorem dX7_isKept_88 : decode cX7_isKept 88 = .ok (.iconst 1, 1) := by decide +kernel
theorem dX7_isKept_89 : decode cX7_isKept 89 = .ok (.goto 4, 3) := by decide +kernel
theorem dX7_isKept_92 : decode cX7_isKept 92 = .ok (.iconst 0, 1) := by decide +kernel
theorem dX7_isKept_93 : decode cX7_isKept 93 = .ok (.ireturn, 1) := by decide +kernel
theorem dX7_isSign_0 : decode cX7_isSign 0 = .ok (.iload_n 1, 1) := by decide +kernel
theorem dX7_isSign_1 : decode cX7_isSign 1 = .ok (.bipush 58, 2) := by decide +kernel
theorem dX7_isSign_3 : decode cX7_isSign 3 = .ok (.if_icmp .eq 70, 3) := by decide +kernel
theorem dX7_isSign_6 : decode cX7_isSign 6 = .ok (.iload_n 1, 1) := by decide +kernel
theorem dX7_isSign_7 : decode cX7_isSign 7 = .ok (.bipush 44, 2) := by decide +kernel
theorem dX7_isSign_9 : decode cX7_isSign 9 = .ok (.if_icmp .eq 64, 3) := by decide +kernel
theorem dX7_isSign_12 : decode cX7_isSign 12 = .ok (.iload_n 1, 1) := by decide +kernel
theorem dX7_isSign_13 : decode cX7_isSign 13 = .ok (.bipush 59, 2) := by decide +kernel
theorem dX7_isSign_15 : decode cX7_isSign 15 = .ok (.if_icmp .eq 58, 3) := by decide +kernel
theorem dX7_isSign_18 : decode cX7_isSign 18 = .ok (.iload_n 1, 1) := by decide +kernel
theorem dX7_isSign_19 : decode cX7_isSign 19 = .ok (.bipush 35, 2) := by decide +kernel
theorem dX7_isSign_21 : decode cX7_isSign 21 = .ok (.if_icmp .eq 52, 3) := by decide +kernel
theorem dX7_isSign_24 : decode cX7_isSign 24 = .ok (.iload_n 1, 1) := by decide +kernel
theorem dX7_isSign_25 : decode cX7_isSign 25 = .ok (.bipush 45, 2) := by decide +kernel
theorem dX7_isSign_27 : decode cX7_isSign 27 = .ok (.if_icmp .eq 46, 3) := by decide +kernel
theorem dX7_isSign_30 : decode cX7_isSign 30 = .ok (.iload_n 1, 1) := by decide +kernel
theorem dX7_isSign_31 : decode cX7_isSign 31 = .ok (.bipush 46, 2) := by decide +kernel
theorem dX7_isSign_33 : decode cX7_isSign 33 = .ok (.if_icmp .eq 40, 3) := by decide +kernel
theorem dX7_isSign_36 : decode cX7_isSign 36 = .ok (.aload_n 0, 1) := by decide +kernel
theorem dX7_isSign_37 : decode cX7_isSign 37 = .ok (.getfield 39, 3) := by decide +kernel
theorem dX7_isSign_40 : decode cX7_isSign 40 = .ok (.ifCond .eq 37, 3) := by decide +kernel
theorem dX7_isSign_43 : decode cX7_isSign 43 = .ok (.iload_n 1, 1) := by decide +kernel
theorem dX7_isSign_44 : decode cX7_isSign 44 = .ok (.bipush 60, 2) := by decide +kernel
theorem dX7_isSign_46 : decode cX7_isSign 46 = .ok (.if_icmp .eq 27, 3) := by decide +kernel
theorem dX7_isSign_49 : decode cX7_isSign 49 = .ok (.iload_n 1, 1) := by decide +kernel
theorem dX7_isSign_50 : decode cX7_isSign 50 = .ok (.bipush 62, 2) := by decide +kernel
theorem dX7_isSign_52 : decode cX7_isSign 52 = .ok (.if_icmp .eq 21, 3) := by decide +kernel
theorem dX7_isSign_55 : decode cX7_isSign 55 = .ok (.iload_n 1, 1) := by decide +kernel
theorem dX7_isSign_56 : decode cX7_isSign 56 = .ok (.bipush 61, 2) := by decide +kernel
theorem dX7_isSign_58 : decode cX7_isSign 58 = .ok (.if_icmp .eq 15, 3) := by decide +kernel
theorem dX7_isSign_61 : decode cX7_isSign 61 = .ok (.iload_n 1, 1) := by decide +kernel
theorem dX7_isSign_62 : decode cX7_isSign 62 = .ok (.bipush 40, 2) := by decide +kernel
theorem dX7_isSign_64 : decode cX7_isSign 64 = .ok (.if_icmp .eq 9, 3) := by decide +kernel
theorem dX7_isSign_67 : decode cX7_isSign 67 = .ok (.iload_n 1, 1) := by decide +kernel
theorem dX7_isSign_68 : decode cX7_isSign 68 = .ok (.bipush 41, 2) := by decide +kernel
theorem dX7_isSign_70 : decode cX7_isSign 70 = .ok (.if_icmp .ne 7, 3) := by decide +kernel
theorem dX7_isSign_73 : decode cX7_isSign 73 = .ok (.iconst 1, 1) := by decide +kernel
theorem dX7_isSign_74 : decode cX7_isSign 74 = .ok (.goto 4, 3) := by decide +kernel
theorem dX7_isSign_77 : decode cX7_isSign 77 = .ok (.iconst 0, 1) := by decide +kernel
theorem dX7_isSign_78 : decode cX7_isSign 78 = .ok (.ireturn, 1) := by decide +kernel
theorem dX7_next_0 : decode cX7_next 0 = .ok (.aload_n 0, 1) := by decide +kernel
theorem dX7_next_1 : decode cX7_next 1 = .ok (.aload_n 0, 1) := by decide +kernel
theorem dX7_next_2 : decode cX7_next 2 = .ok (.getfield 43, 3) := by decide +kernel
theorem dX7_next_5 : decode cX7_next 5 = .ok (.putfield 46, 3) := by decide +kernel
theorem dX7_next_8 : decode cX7_next 8 = .ok (.aload_n 0, 1) := by decide +kernel
theorem dX7_next_9 : decode cX7_next 9 = .ok (.getfield 46, 3) := by decide +kernel
theorem dX7_next_12 : decode cX7_next 12 = .ok (.aload_n 0, 1) := by decide +kernel
theorem dX7_next_13 : decode cX7_next 13 = .ok (.getfield 1, 3) := by decide +kernel
theorem dX7_next_16 : decode cX7_next 16 = .ok (.if_icmp .ge 42, 3) := by decide +kernel
theorem dX7_next_19 : decode cX7_next 19 = .ok (.aload_n 0, 1) := by decide +kernel
theorem dX7_next_20 : decode cX7_next 20 = .ok (.aload_n 0, 1) := by decide +kernel
theorem dX7_next_21 : decode cX7_next 21 = .ok (.getfield 46, 3) := by decide +kernel
theorem dX7_next_24 : decode cX7_next 24 = .ok (.invokevirtual 49, 3) := by decide +kernel
theorem dX7_next_27 : decode cX7_next 27 = .ok (.bipush 32, 2) := by decide +kernel
theorem dX7_next_29 : decode cX7_next 29 = .ok (.if_icmp .eq 16, 3) := by decide +kernel
theorem dX7_next_32 : decode cX7_next 32 = .ok (.aload_n 0, 1) := by decide +kernel
theorem dX7_next_33 : decode cX7_next 33 = .ok (.aload_n 0, 1) := by decide +kernel
theorem dX7_next_34 : decode cX7_next 34 = .ok (.getfield 46, 3) := by decide +kernel
theorem dX7_next_37 : decode cX7_next 37 = .ok (.invokevirtual 49, 3) := by decide +kernel
theorem dX7_next_40 : decode cX7_next 40 = .ok (.bipush 10, 2) := by decide +kernel
theorem dX7_next_42 : decode cX7_next 42 = .ok (.if_icmp .ne 16, 3) := by decide +kernel
theorem dX7_next_45 : decode cX7_next 45 = .ok (.aload_n 0, 1) := by decide +kernel
theorem dX7_next_46 : decode cX7_next 46 = .ok (.dup, 1) := by decide +kernel
theorem dX7_next_47 : decode cX7_next 47 = .ok (.getfield 46, 3) := by decide +kernel
theorem dX7_next_50 : decode cX7_next 50 = .ok (.iconst 1, 1) := by decide +kernel
theorem dX7_next_51 : decode cX7_next 51 = .ok (.iadd, 1) := by decide +kernel
theorem dX7_next_52 : decode cX7_next 52 = .ok (.putfield 46, 3) := by decide +kernel
theorem dX7_next_55 : decode cX7_next 55 = .ok (.goto (-47), 3) := by decide +kernel
theorem dX7_next_58 : decode cX7_next 58 = .ok (.aload_n 0, 1) := by decide +kernel
theorem dX7_next_59 : decode cX7_next 59 = .ok (.aload_n 0, 1) := by decide +kernel
theorem dX7_next_60 : decode cX7_next 60 = .ok (.getfield 46, 3) := by decide +kernel
theorem dX7_next_63 : decode cX7_next 63 = .ok (.invokevirtual 49, 3) := by decide +kernel
theorem dX7_next_66 : decode cX7_next 66 = .ok (.istore_n 1, 1) := by decide +kernel
theorem dX7_next_67 : decode cX7_next 67 = .ok (.aload_n 0, 1) := by decide +kernel
theorem dX7_next_68 : decode cX7_next 68 = .ok (.aload_n 0, 1) := by decide +kernel
theorem dX7_next_69 : decode cX7_next 69 = .ok (.getfield 46, 3) := by decide +kernel
theorem dX7_next_72 : decode cX7_next 72 = .ok (.iconst 1, 1) := by decide +kernel
theorem dX7_next_73 : decode cX7_next 73 = .ok (.iadd, 1) := by decide +kernel
theorem dX7_next_74 : decode cX7_next 74 = .ok (.putfield 43, 3) := by decide +kernel
theorem dX7_next_77 : decode cX7_next 77 = .ok (.aload_n 0, 1) := by decide +kernel
theorem dX7_next_78 : decode cX7_next 78 = .ok (.getfield 46, 3) := by decide +kernel
theorem dX7_next_81 : decode cX7_next 81 = .ok (.aload_n 0, 1) := by decide +kernel
theorem dX7_next_82 : decode cX7_next 82 = .ok (.getfield 1, 3) := by decide +kernel
theorem dX7_next_85 : decode cX7_next 85 = .ok (.if_icmp .lt 27, 3) := by decide +kernel
theorem dX7_next_88 : decode cX7_next 88 = .ok (.aload_n 0, 1) := by decide +kernel
theorem dX7_next_89 : decode cX7_next 89 = .ok (.iconst 0, 1) := by decide +kernel
theorem dX7_next_90 : decode cX7_next 90 = .ok (.putfield 53, 3) := by decide +kernel
theorem dX7_next_93 : decode cX7_next 93 = .ok (.aload_n 0, 1) := by decide +kernel
theorem dX7_next_94 : decode cX7_next 94 = .ok (.aload_n 0, 1) := by decide +kernel
theorem dX7_next_95 : decode cX7_next 95 = .ok (.getfield 1, 3) := by decide +kernel
theorem dX7_next_98 : decode cX7_next 98 = .ok (.putfield 46, 3) := by decide +kernel
theorem dX7_next_101 : decode cX7_next 101 = .ok (.aload_n 0, 1) := by decide +kernel
theorem dX7_next_102 : decode cX7_next 102 = .ok (.aload_n 0, 1) := by decide +kernel
theorem dX7_next_103 : decode cX7_next 103 = .ok (.getfield 1, 3) := by decide +kernel
theorem dX7_next_106 : decode cX7_next 106 = .ok (.putfield 43, 3) := by decide +kernel
theorem dX7_next_109 : decode cX7_next 109 = .ok (.goto 271, 3) := by decide +kernel
theorem dX7_next_112 : decode cX7_next 112 = .ok (.iload_n 1, 1) := by decide +kernel
theorem dX7_next_113 : decode cX7_next 113 = .ok (.invokestatic 56, 3) := by decide +kernel
theorem dX7_next_116 : decode cX7_next 116 = .ok (.ifCond .eq 123, 3) := by decide +kernel
theorem dX7_next_119 : decode cX7_next 119 = .ok (.aload_n 0, 1) := by decide +kernel
theorem dX7_next_120 : decode cX7_next 120 = .ok (.aload_n 0, 1) := by decide +kernel
theorem dX7_next_121 : decode cX7_next 121 = .ok (.getfield 43, 3) := by decide +kernel
theorem dX7_next_124 : decode cX7_next 124 = .ok (.invokevirtual 49, 3) := by decide +kernel
theorem dX7_next_127 : decode cX7_next 127 = .ok (.invokestatic 56, 3) := by decide +kernel
theorem dX7_next_130 : decode cX7_next 130 = .ok (.ifCond .eq 16, 3) := by decide +kernel
theorem dX7_next_133 : decode cX7_next 133 = .ok (.aload_n 0, 1) := by decide +kernel
theorem dX7_next_134 : decode cX7_next 134 = .ok (.dup, 1) := by decide +kernel
theorem dX7_next_135 : decode cX7_next 135 = .ok (.getfield 43, 3) := by decide +kernel
theorem dX7_next_138 : decode cX7_next 138 = .ok (.iconst 1, 1) := by decide +kernel
theorem dX7_next_139 : decode cX7_next 139 = .ok (.iadd, 1) := by decide +kernel
theorem dX7_next_140 : decode cX7_next 140 = .ok (.putfield 43, 3) := by decide +kernel
theorem dX7_next_143 : decode cX7_next 143 = .ok (.goto (-24), 3) := by decide +kernel
theorem dX7_next_146 : decode cX7_next 146 = .ok (.aload_n 0, 1) := by decide +kernel
theorem dX7_next_147 : decode cX7_next 147 = .ok (.lconst 0, 1) := by decide +kernel
theorem dX7_next_148 : decode cX7_next 148 = .ok (.putfield 60, 3) := by decide +kernel
theorem dX7_next_151 : decode cX7_next 151 = .ok (.aload_n 0, 1) := by decide +kernel
theorem dX7_next_152 : decode cX7_next 152 = .ok (.getfield 46, 3) := by decide +kernel
theorem dX7_next_155 : decode cX7_next 155 = .ok (.istore_n 2, 1) := by decide +kernel
theorem dX7_next_156 : decode cX7_next 156 = .ok (.iload_n 2, 1) := by decide +kernel
theorem dX7_next_157 : decode cX7_next 157 = .ok (.aload_n 0, 1) := by decide +kernel
theorem dX7_next_158 : decode cX7_next 158 = .ok (.getfield 43, 3) := by decide +kernel
theorem dX7_next_161 : decode cX7_next 161 = .ok (.if_icmp .ge 38, 3) := by decide +kernel
theorem dX7_next_164 : decode cX7_next 164 = .ok (.iload_n 2, 1) := by decide +kernel
theorem dX7_next_165 : decode cX7_next 165 = .ok (.aload_n 0, 1) := by decide +kernel
theorem dX7_next_166 : decode cX7_next 166 = .ok (.getfield 46, 3) := by decide +kernel
theorem dX7_next_169 : decode cX7_next 169 = .ok (.bipush 8, 2) := by decide +kernel
theorem dX7_next_171 : decode cX7_next 171 = .ok (.iadd, 1) := by decide +kernel
theorem dX7_next_172 : decode cX7_next 172 = .ok (.if_icmp .ge 27, 3) := by decide +kernel
theorem dX7_next_175 : decode cX7_next 175 = .ok (.aload_n 0, 1) := by decide +kernel
theorem dX7_next_176 : decode cX7_next 176 = .ok (.aload_n 0, 1) := by decide +kernel
theorem dX7_next_177 : decode cX7_next 177 = .ok (.getfield 60, 3) := by decide +kernel
theorem dX7_next_180 : decode cX7_next 180 = .ok (.bipush 8, 2) := by decide +kernel
theorem dX7_next_182 : decode cX7_next 182 = .ok (.lshl, 1) := by decide +kernel
theorem dX7_next_183 : decode cX7_next 183 = .ok (.aload_n 0, 1) := by decide +kernel
theorem dX7_next_184 : decode cX7_next 184 = .ok (.iload_n 2, 1) := by decide +kernel
theorem dX7_next_185 : decode cX7_next 185 = .ok (.invokevirtual 49, 3) := by decide +kernel
theorem dX7_next_188 : decode cX7_next 188 = .ok (.i2l, 1) := by decide +kernel
theorem dX7_next_189 : decode cX7_next 189 = .ok (.lor, 1) := by decide +kernel
theorem dX7_next_190 : decode cX7_next 190 = .ok (.putfield 60, 3) := by decide +kernel
theorem dX7_next_193 : decode cX7_next 193 = .ok (.iinc 2 1, 3) := by decide +kernel
theorem dX7_next_196 : decode cX7_next 196 = .ok (.goto (-40), 3) := by decide +kernel
theorem dX7_next_199 : decode cX7_next 199 = .ok (.aload_n 0, 1) := by decide +kernel
theorem dX7_next_200 : decode cX7_next 200 = .ok (.aload_n 0, 1) := by decide +kernel
theorem dX7_next_201 : decode cX7_next 201 = .ok (.getfield 43, 3) := by decide +kernel
theorem dX7_next_204 : decode cX7_next 204 = .ok (.aload_n 0, 1) := by decide +kernel
theorem dX7_next_205 : decode cX7_next 205 = .ok (.getfield 46, 3) := by decide +kernel
theorem dX7_next_208 : decode cX7_next 208 = .ok (.isub, 1) := by decide +kernel
theorem dX7_next_209 : decode cX7_next 209 = .ok (.bipush 8, 2) := by decide +kernel
theorem dX7_next_211 : decode cX7_next 211 = .ok (.if_icmp .le 7, 3) := by decide +kernel
theorem dX7_next_214 : decode cX7_next 214 = .ok (.iconst 1, 1) := by decide +kernel
theorem dX7_next_215 : decode cX7_next 215 = .ok (.goto 18, 3) := by decide +kernel
theorem dX7_next_218 : decode cX7_next 218 = .ok (.aload_n 0, 1) := by decide +kernel
theorem dX7_next_219 : decode cX7_next 219 = .ok (.getfield 60, 3) := by decide +kernel
theorem dX7_next_222 : decode cX7_next 222 = .ok (.invokestatic 64, 3) := by decide +kernel
theorem dX7_next_225 : decode cX7_next 225 = .ok (.ifCond .eq 7, 3) := by decide +kernel
theorem dX7_next_228 : decode cX7_next 228 = .ok (.iconst 3, 1) := by decide +kernel
theorem dX7_next_229 : decode cX7_next 229 = .ok (.goto 4, 3) := by decide +kernel
theorem dX7_next_232 : decode cX7_next 232 = .ok (.iconst 2, 1) := by decide +kernel
theorem dX7_next_233 : decode cX7_next 233 = .ok (.putfield 53, 3) := by decide +kernel
theorem dX7_next_236 : decode cX7_next 236 = .ok (.goto 144, 3) := by decide +kernel
theorem dX7_next_239 : decode cX7_next 239 = .ok (.iload_n 1, 1) := by decide +kernel
theorem dX7_next_240 : decode cX7_next 240 = .ok (.invokestatic 68, 3) := by decide +kernel
theorem dX7_next_243 : decode cX7_next 243 = .ok (.ifCond .eq 120, 3) := by decide +kernel
theorem dX7_next_246 : decode cX7_next 246 = .ok (.aload_n 0, 1) := by decide +kernel
theorem dX7_next_247 : decode cX7_next 247 = .ok (.iconst 0, 1) := by decide +kernel
theorem dX7_next_248 : decode cX7_next 248 = .ok (.putfield 71, 3) := by decide +kernel
theorem dX7_next_251 : decode cX7_next 251 = .ok (.aload_n 0, 1) := by decide +kernel
theorem dX7_next_252 : decode cX7_next 252 = .ok (.aload_n 0, 1) := by decide +kernel
theorem dX7_next_253 : decode cX7_next 253 = .ok (.getfield 46, 3) := by decide +kernel
theorem dX7_next_256 : decode cX7_next 256 = .ok (.putfield 43, 3) := by decide +kernel
theorem dX7_next_259 : decode cX7_next 259 = .ok (.aload_n 0, 1) := by decide +kernel
theorem dX7_next_260 : decode cX7_next 260 = .ok (.aload_n 0, 1) := by decide +kernel
theorem dX7_next_261 : decode cX7_next 261 = .ok (.getfield 43, 3) := by decide +kernel
theorem dX7_next_264 : decode cX7_next 264 = .ok (.invokevirtual 49, 3) := by decide +kernel
theorem dX7_next_267 : decode cX7_next 267 = .ok (.invokestatic 68, 3) := by decide +kernel
theorem dX7_next_270 : decode cX7_next 270 = .ok (.ifCond .eq 53, 3) := by decide +kernel
theorem dX7_next_273 : decode cX7_next 273 = .ok (.aload_n 0, 1) := by decide +kernel
theorem dX7_next_274 : decode cX7_next 274 = .ok (.getfield 43, 3) := by decide +kernel
theorem dX7_next_277 : decode cX7_next 277 = .ok (.aload_n 0, 1) := by decide +kernel
theorem dX7_next_278 : decode cX7_next 278 = .ok (.getfield 46, 3) := by decide +kernel
theorem dX7_next_281 : decode cX7_next 281 = .ok (.isub, 1) := by decide +kernel
theorem dX7_next_282 : decode cX7_next 282 = .ok (.bipush 6, 2) := by decide +kernel
theorem dX7_next_284 : decode cX7_next 284 = .ok (.if_icmp .ge 26, 3) := by decide +kernel
theorem dX7_next_287 : decode cX7_next 287 = .ok (.aload_n 0, 1) := by decide +kernel
theorem dX7_next_288 : decode cX7_next 288 = .ok (.bipush 10, 2) := by decide +kernel
theorem dX7_next_290 : decode cX7_next 290 = .ok (.aload_n 0, 1) := by decide +kernel
theorem dX7_next_291 : decode cX7_next 291 = .ok (.getfield 71, 3) := by decide +kernel
theorem dX7_next_294 : decode cX7_next 294 = .ok (.imul, 1) := by decide +kernel
theorem dX7_next_295 : decode cX7_next 295 = .ok (.aload_n 0, 1) := by decide +kernel
theorem dX7_next_296 : decode cX7_next 296 = .ok (.aload_n 0, 1) := by decide +kernel
theorem dX7_next_297 : decode cX7_next 297 = .ok (.getfield 43, 3) := by decide +kernel
theorem dX7_next_300 : decode cX7_next 300 = .ok (.invokevirtual 49, 3) := by decide +kernel
theorem dX7_next_303 : decode cX7_next 303 = .ok (.iadd, 1) := by decide +kernel
theorem dX7_next_304 : decode cX7_next 304 = .ok (.bipush 48, 2) := by decide +kernel
theorem dX7_next_306 : decode cX7_next 306 = .ok (.isub, 1) := by decide +kernel
theorem dX7_next_307 : decode cX7_next 307 = .ok (.putfield 71, 3) := by decide +kernel
theorem dX7_next_310 : decode cX7_next 310 = .ok (.aload_n 0, 1) := by decide +kernel
theorem dX7_next_311 : decode cX7_next 311 = .ok (.dup, 1) := by decide +kernel
theorem dX7_next_312 : decode cX7_next 312 = .ok (.getfield 43, 3) := by decide +kernel
theorem dX7_next_315 : decode cX7_next 315 = .ok (.iconst 1, 1) := by decide +kernel
theorem dX7_next_316 : decode cX7_next 316 = .ok (.iadd, 1) := by decide +kernel
theorem dX7_next_317 : decode cX7_next 317 = .ok (.putfield 43, 3) := by decide +kernel
theorem dX7_next_320 : decode cX7_next 320 = .ok (.goto (-61), 3) := by decide +kernel
theorem dX7_next_323 : decode cX7_next 323 = .ok (.aload_n 0, 1) := by decide +kernel
theorem dX7_next_324 : decode cX7_next 324 = .ok (.aload_n 0, 1) := by decide +kernel
theorem dX7_next_325 : decode cX7_next 325 = .ok (.getfield 43, 3) := by decide +kernel
theorem dX7_next_328 : decode cX7_next 328 = .ok (.aload_n 0, 1) := by decide +kernel
theorem dX7_next_329 : decode cX7_next 329 = .ok (.getfield 46, 3) := by decide +kernel
theorem dX7_next_332 : decode cX7_next 332 = .ok (.isub, 1) := by decide +kernel
theorem dX7_next_333 : decode cX7_next 333 = .ok (.bipush 6, 2) := by decide +kernel
theorem dX7_next_335 : decode cX7_next 335 = .ok (.if_icmp .gt 17, 3) := by decide +kernel
theorem dX7_next_338 : decode cX7_next 338 = .ok (.aload_n 0, 1) := by decide +kernel
theorem dX7_next_339 : decode cX7_next 339 = .ok (.aload_n 0, 1) := by decide +kernel
theorem dX7_next_340 : decode cX7_next 340 = .ok (.getfield 43, 3) := by decide +kernel
theorem dX7_next_343 : decode cX7_next 343 = .ok (.invokevirtual 49, 3) := by decide +kernel
theorem dX7_next_346 : decode cX7_next 346 = .ok (.invokestatic 56, 3) := by decide +kernel
theorem dX7_next_349 : decode cX7_next 349 = .ok (.ifCond .eq 7, 3) := by decide +kernel
theorem dX7_next_352 : decode cX7_next 352 = .ok (.iconst 1, 1) := by decide +kernel
theorem dX7_next_353 : decode cX7_next 353 = .ok (.goto 4, 3) := by decide +kernel
theorem dX7_next_356 : decode cX7_next 356 = .ok (.iconst 4, 1) := by decide +kernel
theorem dX7_next_357 : decode cX7_next 357 = .ok (.putfield 53, 3) := by decide +kernel
theorem dX7_next_360 : decode cX7_next 360 = .ok (.goto 20, 3) := by decide +kernel
theorem dX7_next_363 : decode cX7_next 363 = .ok (.aload_n 0, 1) := by decide +kernel
theorem dX7_next_364 : decode cX7_next 364 = .ok (.aload_n 0, 1) := by decide +kernel
theorem dX7_next_365 : decode cX7_next 365 = .ok (.iload_n 1, 1) := by decide +kernel
theorem dX7_next_366 : decode cX7_next 366 = .ok (.invokevirtual 74, 3) := by decide +kernel
theorem dX7_next_369 : decode cX7_next 369 = .ok (.ifCond .eq 7, 3) := by decide +kernel
theorem dX7_next_372 : decode cX7_next 372 = .ok (.iconst 5, 1) := by decide +kernel
theorem dX7_next_373 : decode cX7_next 373 = .ok (.goto 4, 3) := by decide +kernel
theorem dX7_next_376 : decode cX7_next 376 = .ok (.iconst 1, 1) := by decide +kernel
theorem dX7_next_377 : decode cX7_next 377 = .ok (.putfield 53, 3) := by decide +kernel
theorem dX7_next_380 : decode cX7_next 380 = .ok (.return_, 1) := by decide +kernel
theorem dX7_is_0 : decode cX7_is 0 = .ok (.aload_n 0, 1) := by decide +kernel
theorem dX7_is_1 : decode cX7_is 1 = .ok (.getfield 53, 3) := by decide +kernel
theorem dX7_is_4 : decode cX7_is 4 = .ok (.iconst 5, 1) := by decide +kernel
theorem dX7_is_5 : decode cX7_is 5 = .ok (.if_icmp .ne 19, 3) := by decide +kernel
theorem dX7_is_8 : decode cX7_is 8 = .ok (.aload_n 0, 1) := by decide +kernel
theorem dX7_is_9 : decode cX7_is 9 = .ok (.aload_n 0, 1) := by decide +kernel
theorem dX7_is_10 : decode cX7_is 10 = .ok (.getfield 46, 3) := by decide +kernel
theorem dX7_is_13 : decode cX7_is 13 = .ok (.invokevirtual 49, 3) := by decide +kernel
theorem dX7_is_16 : decode cX7_is 16 = .ok (.iload_n 1, 1) := by decide +kernel
theorem dX7_is_17 : decode cX7_is 17 = .ok (.if_icmp .ne 7, 3) := by decide +kernel
theorem dX7_is_20 : decode cX7_is 20 = .ok (.iconst 1, 1) := by decide +kernel
theorem dX7_is_21 : decode cX7_is 21 = .ok (.goto 4, 3) := by decide +kernel
theorem dX7_is_24 : decode cX7_is 24 = .ok (.iconst 0, 1) := by decide +kernel
theorem dX7_is_25 : decode cX7_is 25 = .ok (.ireturn, 1) := by decide +kernel
theorem dX7_isWord_0 : decode cX7_isWord 0 = .ok (.aload_n 0, 1) := by decide +kernel
theorem dX7_isWord_1 : decode cX7_isWord 1 = .ok (.getfield 53, 3) := by decide +kernel
theorem dX7_isWord_4 : decode cX7_isWord 4 = .ok (.iconst 3, 1) := by decide +kernel
theorem dX7_isWord_5 : decode cX7_isWord 5 = .ok (.if_icmp .ne 16, 3) := by decide +kernel
theorem dX7_isWord_8 : decode cX7_isWord 8 = .ok (.aload_n 0, 1) := by decide +kernel
theorem dX7_isWord_9 : decode cX7_isWord 9 = .ok (.getfield 60, 3) := by decide +kernel
theorem dX7_isWord_12 : decode cX7_isWord 12 = .ok (.lload_n 1, 1) := by decide +kernel
theorem dX7_isWord_13 : decode cX7_isWord 13 = .ok (.lcmp, 1) := by decide +kernel
theorem dX7_isWord_14 : decode cX7_isWord 14 = .ok (.ifCond .ne 7, 3) := by decide +kernel
theorem dX7_isWord_17 : decode cX7_isWord 17 = .ok (.iconst 1, 1) := by decide +kernel
theorem dX7_isWord_18 : decode cX7_isWord 18 = .ok (.goto 4, 3) := by decide +kernel
theorem dX7_isWord_21 : decode cX7_isWord 21 = .ok (.iconst 0, 1) := by decide +kernel
theorem dX7_isWord_22 : decode cX7_isWord 22 = .ok (.ireturn, 1) := by decide +kernel
theorem dX7_wrong_0 : decode cX7_wrong 0 = .ok (.aload_n 0, 1) := by decide +kernel
theorem dX7_wrong_1 : decode cX7_wrong 1 = .ok (.aload_n 0, 1) := by decide +kernel
theorem dX7_wrong_2 : decode cX7_wrong 2 = .ok (.getfield 53, 3) := by decide +kernel
theorem dX7_wrong_5 : decode cX7_wrong 5 = .ok (.iconst 1, 1) := by decide +kernel
theorem dX7_wrong_6 : decode cX7_wrong 6 = .ok (.if_icmp .ne 7, 3) := by decide +kernel
theorem dX7_wrong_9 : decode cX7_wrong 9 = .ok (.iconst 1, 1) := by decide +kernel
theorem dX7_wrong_10 : decode cX7_wrong 10 = .ok (.goto 4, 3) := by decide +kernel
theorem dX7_wrong_13 : decode cX7_wrong 13 = .ok (.iconst 2, 1) := by decide +kernel
theorem dX7_wrong_14 : decode cX7_wrong 14 = .ok (.aload_n 0, 1) := by decide +kernel
theorem dX7_wrong_15 : decode cX7_wrong 15 = .ok (.getfield 46, 3) := by decide +kernel
theorem dX7_wrong_18 : decode cX7_wrong 18 = .ok (.invokevirtual 77, 3) := by decide +kernel
theorem dX7_wrong_21 : decode cX7_wrong 21 = .ok (.return_, 1) := by decide +kernel
theorem dX7_must_0 : decode cX7_must 0 = .ok (.aload_n 0, 1) := by decide +kernel
theorem dX7_must_1 : decode cX7_must 1 = .ok (.invokevirtual 81, 3) := by decide +kernel
theorem dX7_must_4 : decode cX7_must 4 = .ok (.ifCond .ne 4, 3) := by decide +kernel
theorem dX7_must_7 : decode cX7_must 7 = .ok (.return_, 1) := by decide +kernel
theorem dX7_must_8 : decode cX7_must 8 = .ok (.iload_n 1, 1) := by decide +kernel
theorem dX7_must_9 : decode cX7_must 9 = .ok (.ifCond .eq 10, 3) := by decide +kernel
theorem dX7_must_12 : decode cX7_must 12 = .ok (.aload_n 0, 1) := by decide +kernel
theorem dX7_must_13 : decode cX7_must 13 = .ok (.invokevirtual 85, 3) := by decide +kernel
theorem dX7_must_16 : decode cX7_must 16 = .ok (.goto 7, 3) := by decide +kernel
theorem dX7_must_19 : decode cX7_must 19 = .ok (.aload_n 0, 1) := by decide +kernel
theorem dX7_must_20 : decode cX7_must 20 = .ok (.invokevirtual 89, 3) := by decide +kernel
theorem dX7_must_23 : decode cX7_must 23 = .ok (.return_, 1) := by decide +kernel
theorem dX7_takeTape_0 : decode cX7_takeTape 0 = .ok (.aload_n 0, 1) := by decide +kernel
theorem dX7_takeTape_1 : decode cX7_takeTape 1 = .ok (.iload_n 1, 1) := by decide +kernel
theorem dX7_takeTape_2 : decode cX7_takeTape 2 = .ok (.putfield 39, 3) := by decide +kernel
theorem dX7_takeTape_5 : decode cX7_takeTape 5 = .ok (.aload_n 0, 1) := by decide +kernel
theorem dX7_takeTape_6 : decode cX7_takeTape 6 = .ok (.iconst 0, 1) := by decide +kernel
theorem dX7_takeTape_7 : decode cX7_takeTape 7 = .ok (.putfield 11, 3) := by decide +kernel
theorem dX7_takeTape_10 : decode cX7_takeTape 10 = .ok (.aload_n 0, 1) := by decide +kernel
theorem dX7_takeTape_11 : decode cX7_takeTape 11 = .ok (.iconst (-1), 1) := by decide +kernel
theorem dX7_takeTape_12 : decode cX7_takeTape 12 = .ok (.putfield 14, 3) := by decide +kernel
theorem dX7_takeTape_15 : decode cX7_takeTape 15 = .ok (.aload_n 0, 1) := by decide +kernel
theorem dX7_takeTape_16 : decode cX7_takeTape 16 = .ok (.aload_n 0, 1) := by decide +kernel
theorem dX7_takeTape_17 : decode cX7_takeTape 17 = .ok (.getfield 92, 3) := by decide +kernel
theorem dX7_takeTape_20 : decode cX7_takeTape 20 = .ok (.putfield 1, 3) := by decide +kernel
theorem dX7_takeTape_23 : decode cX7_takeTape 23 = .ok (.iconst 0, 1) := by decide +kernel
theorem dX7_takeTape_24 : decode cX7_takeTape 24 = .ok (.istore_n 2, 1) := by decide +kernel
theorem dX7_takeTape_25 : decode cX7_takeTape 25 = .ok (.iload_n 2, 1) := by decide +kernel
theorem dX7_takeTape_26 : decode cX7_takeTape 26 = .ok (.aload_n 0, 1) := by decide +kernel
theorem dX7_takeTape_27 : decode cX7_takeTape 27 = .ok (.getfield 1, 3) := by decide +kernel
theorem dX7_takeTape_30 : decode cX7_takeTape 30 = .ok (.if_icmp .ge 21, 3) := by decide +kernel
theorem dX7_takeTape_33 : decode cX7_takeTape 33 = .ok (.aload_n 0, 1) := by decide +kernel
theorem dX7_takeTape_34 : decode cX7_takeTape 34 = .ok (.getfield 7, 3) := by decide +kernel
theorem dX7_takeTape_37 : decode cX7_takeTape 37 = .ok (.iload_n 2, 1) := by decide +kernel
theorem dX7_takeTape_38 : decode cX7_takeTape 38 = .ok (.aload_n 0, 1) := by decide +kernel
theorem dX7_takeTape_39 : decode cX7_takeTape 39 = .ok (.getfield 95, 3) := by decide +kernel
theorem dX7_takeTape_42 : decode cX7_takeTape 42 = .ok (.iload_n 2, 1) := by decide +kernel
theorem dX7_takeTape_43 : decode cX7_takeTape 43 = .ok (.baload, 1) := by decide +kernel
theorem dX7_takeTape_44 : decode cX7_takeTape 44 = .ok (.bastore, 1) := by decide +kernel
theorem dX7_takeTape_45 : decode cX7_takeTape 45 = .ok (.iinc 2 1, 3) := by decide +kernel
theorem dX7_takeTape_48 : decode cX7_takeTape 48 = .ok (.goto (-23), 3) := by decide +kernel
theorem dX7_takeTape_51 : decode cX7_takeTape 51 = .ok (.aload_n 0, 1) := by decide +kernel
theorem dX7_takeTape_52 : decode cX7_takeTape 52 = .ok (.iconst 0, 1) := by decide +kernel
theorem dX7_takeTape_53 : decode cX7_takeTape 53 = .ok (.putfield 92, 3) := by decide +kernel
theorem dX7_takeTape_56 : decode cX7_takeTape 56 = .ok (.aload_n 0, 1) := by decide +kernel
theorem dX7_takeTape_57 : decode cX7_takeTape 57 = .ok (.iconst 0, 1) := by decide +kernel
theorem dX7_takeTape_58 : decode cX7_takeTape 58 = .ok (.putfield 43, 3) := by decide +kernel
theorem dX7_takeTape_61 : decode cX7_takeTape 61 = .ok (.return_, 1) := by decide +kernel
theorem dX7_tableOf_0 : decode cX7_tableOf 0 = .ok (.iconst 5, 1) := by decide +kernel
theorem dX7_tableOf_1 : decode cX7_tableOf 1 = .ok (.iload_n 1, 1) := by decide +kernel
theorem dX7_tableOf_2 : decode cX7_tableOf 2 = .ok (.imul, 1) := by decide +kernel
theorem dX7_tableOf_3 : decode cX7_tableOf 3 = .ok (.istore 4, 2) := by decide +kernel
theorem dX7_tableOf_5 : decode cX7_tableOf 5 = .ok (.iload 4, 2) := by decide +kernel
theorem dX7_tableOf_7 : decode cX7_tableOf 7 = .ok (.iconst 5, 1) := by decide +kernel
theorem dX7_tableOf_8 : decode cX7_tableOf 8 = .ok (.iload_n 1, 1) := by decide +kernel
theorem dX7_tableOf_9 : decode cX7_tableOf 9 = .ok (.imul, 1) := by decide +kernel
theorem dX7_tableOf_10 : decode cX7_tableOf 10 = .ok (.aload_n 0, 1) := by decide +kernel
theorem dX7_tableOf_11 : decode cX7_tableOf 11 = .ok (.getfield 98, 3) := by decide +kernel
theorem dX7_tableOf_14 : decode cX7_tableOf 14 = .ok (.iload_n 1, 1) := by decide +kernel
theorem dX7_tableOf_15 : decode cX7_tableOf 15 = .ok (.iaload, 1) := by decide +kernel
theorem dX7_tableOf_16 : decode cX7_tableOf 16 = .ok (.iadd, 1) := by decide +kernel
theorem dX7_tableOf_17 : decode cX7_tableOf 17 = .ok (.if_icmp .ge 24, 3) := by decide +kernel
theorem dX7_tableOf_20 : decode cX7_tableOf 20 = .ok (.aload_n 0, 1) := by decide +kernel
theorem dX7_tableOf_21 : decode cX7_tableOf 21 = .ok (.getfield 102, 3) := by decide +kernel
theorem dX7_tableOf_24 : decode cX7_tableOf 24 = .ok (.iload 4, 2) := by decide +kernel
theorem dX7_tableOf_26 : decode cX7_tableOf 26 = .ok (.laload, 1) := by decide +kernel
theorem dX7_tableOf_27 : decode cX7_tableOf 27 = .ok (.lload_n 2, 1) := by decide +kernel
theorem dX7_tableOf_28 : decode cX7_tableOf 28 = .ok (.lcmp, 1) := by decide +kernel
theorem dX7_tableOf_29 : decode cX7_tableOf 29 = .ok (.ifCond .ne 6, 3) := by decide +kernel
theorem dX7_tableOf_32 : decode cX7_tableOf 32 = .ok (.iload 4, 2) := by decide +kernel
theorem dX7_tableOf_34 : decode cX7_tableOf 34 = .ok (.ireturn, 1) := by decide +kernel
theorem dX7_tableOf_35 : decode cX7_tableOf 35 = .ok (.iinc 4 1, 3) := by decide +kernel
theorem dX7_tableOf_38 : decode cX7_tableOf 38 = .ok (.goto (-33), 3) := by decide +kernel
theorem dX7_tableOf_41 : decode cX7_tableOf 41 = .ok (.iconst (-1), 1) := by decide +kernel
theorem dX7_tableOf_42 : decode cX7_tableOf 42 = .ok (.ireturn, 1) := by decide +kernel
theorem dX7_columnOf_0 : decode cX7_columnOf 0 = .ok (.iconst 5, 1) := by decide +kernel
theorem dX7_columnOf_1 : decode cX7_columnOf 1 = .ok (.iload_n 1, 1) := by decide +kernel
theorem dX7_columnOf_2 : decode cX7_columnOf 2 = .ok (.imul, 1) := by decide +kernel
theorem dX7_columnOf_3 : decode cX7_columnOf 3 = .ok (.istore 4, 2) := by decide +kernel
theorem dX7_columnOf_5 : decode cX7_columnOf 5 = .ok (.iload 4, 2) := by decide +kernel
theorem dX7_columnOf_7 : decode cX7_columnOf 7 = .ok (.iconst 5, 1) := by decide +kernel
theorem dX7_columnOf_8 : decode cX7_columnOf 8 = .ok (.iload_n 1, 1) := by decide +kernel
theorem dX7_columnOf_9 : decode cX7_columnOf 9 = .ok (.imul, 1) := by decide +kernel
theorem dX7_columnOf_10 : decode cX7_columnOf 10 = .ok (.aload_n 0, 1) := by decide +kernel
theorem dX7_columnOf_11 : decode cX7_columnOf 11 = .ok (.getfield 106, 3) := by decide +kernel
theorem dX7_columnOf_14 : decode cX7_columnOf 14 = .ok (.iload_n 1, 1) := by decide +kernel
theorem dX7_columnOf_15 : decode cX7_columnOf 15 = .ok (.iaload, 1) := by decide +kernel
theorem dX7_columnOf_16 : decode cX7_columnOf 16 = .ok (.iadd, 1) := by decide +kernel
theorem dX7_columnOf_17 : decode cX7_columnOf 17 = .ok (.if_icmp .ge 24, 3) := by decide +kernel
theorem dX7_columnOf_20 : decode cX7_columnOf 20 = .ok (.aload_n 0, 1) := by decide +kernel
theorem dX7_columnOf_21 : decode cX7_columnOf 21 = .ok (.getfield 109, 3) := by decide +kernel
theorem dX7_columnOf_24 : decode cX7_columnOf 24 = .ok (.iload 4, 2) := by decide +kernel
theorem dX7_columnOf_26 : decode cX7_columnOf 26 = .ok (.laload, 1) := by decide +kernel
theorem dX7_columnOf_27 : decode cX7_columnOf 27 = .ok (.lload_n 2, 1) := by decide +kernel
theorem dX7_columnOf_28 : decode cX7_columnOf 28 = .ok (.lcmp, 1) := by decide +kernel
theorem dX7_columnOf_29 : decode cX7_columnOf 29 = .ok (.ifCond .ne 6, 3) := by decide +kernel
theorem dX7_columnOf_32 : decode cX7_columnOf 32 = .ok (.iload 4, 2) := by decide +kernel
theorem dX7_columnOf_34 : decode cX7_columnOf 34 = .ok (.ireturn, 1) := by decide +kernel
theorem dX7_columnOf_35 : decode cX7_columnOf 35 = .ok (.iinc 4 1, 3) := by decide +kernel
theorem dX7_columnOf_38 : decode cX7_columnOf 38 = .ok (.goto (-33), 3) := by decide +kernel
theorem dX7_columnOf_41 : decode cX7_columnOf 41 = .ok (.iconst (-1), 1) := by decide +kernel
theorem dX7_columnOf_42 : decode cX7_columnOf 42 = .ok (.ireturn, 1) := by decide +kernel
theorem dX7_store_0 : decode cX7_store 0 = .ok (.aload_n 0, 1) := by decide +kernel
theorem dX7_store_1 : decode cX7_store 1 = .ok (.iconst 0, 1) := by decide +kernel
theorem dX7_store_2 : decode cX7_store 2 = .ok (.invokevirtual 112, 3) := by decide +kernel
theorem dX7_store_5 : decode cX7_store 5 = .ok (.aload_n 0, 1) := by decide +kernel
theorem dX7_store_6 : decode cX7_store 6 = .ok (.iconst 1, 1) := by decide +kernel
theorem dX7_store_7 : decode cX7_store 7 = .ok (.aload_n 0, 1) := by decide +kernel
theorem dX7_store_8 : decode cX7_store 8 = .ok (.getfield 116, 3) := by decide +kernel
theorem dX7_store_11 : decode cX7_store 11 = .ok (.isub, 1) := by decide +kernel
theorem dX7_store_12 : decode cX7_store 12 = .ok (.putfield 119, 3) := by decide +kernel
theorem dX7_store_15 : decode cX7_store 15 = .ok (.aload_n 0, 1) := by decide +kernel
theorem dX7_store_16 : decode cX7_store 16 = .ok (.getfield 98, 3) := by decide +kernel
theorem dX7_store_19 : decode cX7_store 19 = .ok (.aload_n 0, 1) := by decide +kernel
theorem dX7_store_20 : decode cX7_store 20 = .ok (.getfield 119, 3) := by decide +kernel
theorem dX7_store_23 : decode cX7_store 23 = .ok (.iconst 0, 1) := by decide +kernel
theorem dX7_store_24 : decode cX7_store 24 = .ok (.iastore, 1) := by decide +kernel
theorem dX7_store_25 : decode cX7_store 25 = .ok (.aload_n 0, 1) := by decide +kernel
theorem dX7_store_26 : decode cX7_store 26 = .ok (.getfield 122, 3) := by decide +kernel
theorem dX7_store_29 : decode cX7_store 29 = .ok (.aload_n 0, 1) := by decide +kernel
theorem dX7_store_30 : decode cX7_store 30 = .ok (.getfield 119, 3) := by decide +kernel
theorem dX7_store_33 : decode cX7_store 33 = .ok (.iconst 0, 1) := by decide +kernel
theorem dX7_store_34 : decode cX7_store 34 = .ok (.iastore, 1) := by decide +kernel
theorem dX7_store_35 : decode cX7_store 35 = .ok (.aload_n 0, 1) := by decide +kernel
theorem dX7_store_36 : decode cX7_store 36 = .ok (.invokevirtual 85, 3) := by decide +kernel
theorem dX7_store_39 : decode cX7_store 39 = .ok (.aload_n 0, 1) := by decide +kernel
theorem dX7_store_40 : decode cX7_store 40 = .ok (.invokevirtual 81, 3) := by decide +kernel
theorem dX7_store_43 : decode cX7_store 43 = .ok (.ifCond .eq 51, 3) := by decide +kernel
theorem dX7_store_46 : decode cX7_store 46 = .ok (.aload_n 0, 1) := by decide +kernel
theorem dX7_store_47 : decode cX7_store 47 = .ok (.getfield 53, 3) := by decide +kernel
theorem dX7_store_50 : decode cX7_store 50 = .ok (.ifCond .eq 44, 3) := by decide +kernel
theorem dX7_store_53 : decode cX7_store 53 = .ok (.aload_n 0, 1) := by decide +kernel
theorem dX7_store_54 : decode cX7_store 54 = .ok (.ldc2_w 17, 3) := by decide +kernel
theorem dX7_store_57 : decode cX7_store 57 = .ok (.invokevirtual 125, 3) := by decide +kernel
theorem dX7_store_60 : decode cX7_store 60 = .ok (.ifCond .eq 10, 3) := by decide +kernel
theorem dX7_store_63 : decode cX7_store 63 = .ok (.aload_n 0, 1) := by decide +kernel
theorem dX7_store_64 : decode cX7_store 64 = .ok (.invokevirtual 128, 3) := by decide +kernel
theorem dX7_store_67 : decode cX7_store 67 = .ok (.goto (-28), 3) := by decide +kernel
theorem dX7_store_70 : decode cX7_store 70 = .ok (.aload_n 0, 1) := by decide +kernel
theorem dX7_store_71 : decode cX7_store 71 = .ok (.ldc2_w 19, 3) := by decide +kernel
theorem dX7_store_74 : decode cX7_store 74 = .ok (.invokevirtual 125, 3) := by decide +kernel
theorem dX7_store_77 : decode cX7_store 77 = .ok (.ifCond .eq 10, 3) := by decide +kernel
theorem dX7_store_80 : decode cX7_store 80 = .ok (.aload_n 0, 1) := by decide +kernel
theorem dX7_store_81 : decode cX7_store 81 = .ok (.invokevirtual 131, 3) := by decide +kernel
theorem dX7_store_84 : decode cX7_store 84 = .ok (.goto (-45), 3) := by decide +kernel
theorem dX7_store_87 : decode cX7_store 87 = .ok (.aload_n 0, 1) := by decide +kernel
theorem dX7_store_88 : decode cX7_store 88 = .ok (.invokevirtual 89, 3) := by decide +kernel
theorem dX7_store_91 : decode cX7_store 91 = .ok (.goto (-52), 3) := by decide +kernel
theorem dX7_store_94 : decode cX7_store 94 = .ok (.iconst 0, 1) := by decide +kernel
theorem dX7_store_95 : decode cX7_store 95 = .ok (.istore_n 1, 1) := by decide +kernel
theorem dX7_store_96 : decode cX7_store 96 = .ok (.iload_n 1, 1) := by decide +kernel
theorem dX7_store_97 : decode cX7_store 97 = .ok (.aload_n 0, 1) := by decide +kernel
theorem dX7_store_98 : decode cX7_store 98 = .ok (.getfield 122, 3) := by decide +kernel
theorem dX7_store_101 : decode cX7_store 101 = .ok (.aload_n 0, 1) := by decide +kernel
theorem dX7_store_102 : decode cX7_store 102 = .ok (.getfield 119, 3) := by decide +kernel
theorem dX7_store_105 : decode cX7_store 105 = .ok (.iaload, 1) := by decide +kernel
theorem dX7_store_106 : decode cX7_store 106 = .ok (.if_icmp .ge 29, 3) := by decide +kernel
theorem dX7_store_109 : decode cX7_store 109 = .ok (.aload_n 0, 1) := by decide +kernel
theorem dX7_store_110 : decode cX7_store 110 = .ok (.invokevirtual 81, 3) := by decide +kernel
theorem dX7_store_113 : decode cX7_store 113 = .ok (.ifCond .eq 22, 3) := by decide +kernel
theorem dX7_store_116 : decode cX7_store 116 = .ok (.aload_n 0, 1) := by decide +kernel
theorem dX7_store_117 : decode cX7_store 117 = .ok (.bipush 16, 2) := by decide +kernel
theorem dX7_store_119 : decode cX7_store 119 = .ok (.aload_n 0, 1) := by decide +kernel
theorem dX7_store_120 : decode cX7_store 120 = .ok (.getfield 119, 3) := by decide +kernel
theorem dX7_store_123 : decode cX7_store 123 = .ok (.imul, 1) := by decide +kernel
theorem dX7_store_124 : decode cX7_store 124 = .ok (.iload_n 1, 1) := by decide +kernel
theorem dX7_store_125 : decode cX7_store 125 = .ok (.iadd, 1) := by decide +kernel
theorem dX7_store_126 : decode cX7_store 126 = .ok (.invokevirtual 134, 3) := by decide +kernel
theorem dX7_store_129 : decode cX7_store 129 = .ok (.iinc 1 1, 3) := by decide +kernel
theorem dX7_store_132 : decode cX7_store 132 = .ok (.goto (-36), 3) := by decide +kernel
theorem dX7_store_135 : decode cX7_store 135 = .ok (.aload_n 0, 1) := by decide +kernel
theorem dX7_store_136 : decode cX7_store 136 = .ok (.invokevirtual 81, 3) := by decide +kernel
theorem dX7_store_139 : decode cX7_store 139 = .ok (.ifCond .ne 5, 3) := by decide +kernel
theorem dX7_store_142 : decode cX7_store 142 = .ok (.iconst (-1), 1) := by decide +kernel
theorem dX7_store_143 : decode cX7_store 143 = .ok (.ireturn, 1) := by decide +kernel
theorem dX7_store_144 : decode cX7_store 144 = .ok (.aload_n 0, 1) := by decide +kernel
theorem dX7_store_145 : decode cX7_store 145 = .ok (.aload_n 0, 1) := by decide +kernel
theorem dX7_store_146 : decode cX7_store 146 = .ok (.getfield 119, 3) := by decide +kernel
theorem dX7_store_149 : decode cX7_store 149 = .ok (.putfield 116, 3) := by decide +kernel
theorem dX7_store_152 : decode cX7_store 152 = .ok (.aload_n 0, 1) := by decide +kernel
theorem dX7_store_153 : decode cX7_store 153 = .ok (.getfield 138, 3) := by decide +kernel
theorem dX7_store_156 : decode cX7_store 156 = .ok (.aload_n 0, 1) := by decide +kernel
theorem dX7_store_157 : decode cX7_store 157 = .ok (.getfield 141, 3) := by decide +kernel
theorem dX7_store_160 : decode cX7_store 160 = .ok (.iconst 0, 1) := by decide +kernel
theorem dX7_store_161 : decode cX7_store 161 = .ok (.iastore, 1) := by decide +kernel
theorem dX7_store_162 : decode cX7_store 162 = .ok (.aload_n 0, 1) := by decide +kernel
theorem dX7_store_163 : decode cX7_store 163 = .ok (.iconst 0, 1) := by decide +kernel
theorem dX7_store_164 : decode cX7_store 164 = .ok (.putfield 144, 3) := by decide +kernel
theorem dX7_store_167 : decode cX7_store 167 = .ok (.aload_n 0, 1) := by decide +kernel
theorem dX7_store_168 : decode cX7_store 168 = .ok (.iconst 0, 1) := by decide +kernel
theorem dX7_store_169 : decode cX7_store 169 = .ok (.putfield 147, 3) := by decide +kernel
theorem dX7_store_172 : decode cX7_store 172 = .ok (.iconst 0, 1) := by decide +kernel
theorem dX7_store_173 : decode cX7_store 173 = .ok (.istore_n 1, 1) := by decide +kernel
theorem dX7_store_174 : decode cX7_store 174 = .ok (.iload_n 1, 1) := by decide +kernel
theorem dX7_store_175 : decode cX7_store 175 = .ok (.bipush 25, 2) := by decide +kernel
theorem dX7_store_177 : decode cX7_store 177 = .ok (.if_icmp .ge 16, 3) := by decide +kernel
theorem dX7_store_180 : decode cX7_store 180 = .ok (.aload_n 0, 1) := by decide +kernel
theorem dX7_store_181 : decode cX7_store 181 = .ok (.getfield 150, 3) := by decide +kernel
theorem dX7_store_184 : decode cX7_store 184 = .ok (.iload_n 1, 1) := by decide +kernel
theorem dX7_store_185 : decode cX7_store 185 = .ok (.iconst (-1), 1) := by decide +kernel
theorem dX7_store_186 : decode cX7_store 186 = .ok (.iastore, 1) := by decide +kernel
theorem dX7_store_187 : decode cX7_store 187 = .ok (.iinc 1 1, 3) := by decide +kernel
theorem dX7_store_190 : decode cX7_store 190 = .ok (.goto (-16), 3) := by decide +kernel
theorem dX7_store_193 : decode cX7_store 193 = .ok (.aload_n 0, 1) := by decide +kernel
theorem dX7_store_194 : decode cX7_store 194 = .ok (.iconst 0, 1) := by decide +kernel
theorem dX7_store_195 : decode cX7_store 195 = .ok (.putfield 153, 3) := by decide +kernel
theorem dX7_store_198 : decode cX7_store 198 = .ok (.aload_n 0, 1) := by decide +kernel
theorem dX7_store_199 : decode cX7_store 199 = .ok (.getfield 122, 3) := by decide +kernel
theorem dX7_store_202 : decode cX7_store 202 = .ok (.aload_n 0, 1) := by decide +kernel
theorem dX7_store_203 : decode cX7_store 203 = .ok (.getfield 116, 3) := by decide +kernel
theorem dX7_store_206 : decode cX7_store 206 = .ok (.iaload, 1) := by decide +kernel
theorem dX7_store_207 : decode cX7_store 207 = .ok (.ireturn, 1) := by decide +kernel
theorem dX7_readTable_0 : decode cX7_readTable 0 = .ok (.aload_n 0, 1) := by decide +kernel
theorem dX7_readTable_1 : decode cX7_readTable 1 = .ok (.getfield 98, 3) := by decide +kernel
theorem dX7_readTable_4 : decode cX7_readTable 4 = .ok (.aload_n 0, 1) := by decide +kernel
theorem dX7_readTable_5 : decode cX7_readTable 5 = .ok (.getfield 119, 3) := by decide +kernel
theorem dX7_readTable_8 : decode cX7_readTable 8 = .ok (.iaload, 1) := by decide +kernel
theorem dX7_readTable_9 : decode cX7_readTable 9 = .ok (.iconst 5, 1) := by decide +kernel
theorem dX7_readTable_10 : decode cX7_readTable 10 = .ok (.if_icmp .ne 7, 3) := by decide +kernel
theorem dX7_readTable_13 : decode cX7_readTable 13 = .ok (.aload_n 0, 1) := by decide +kernel
theorem dX7_readTable_14 : decode cX7_readTable 14 = .ok (.invokevirtual 89, 3) := by decide +kernel
theorem dX7_readTable_17 : decode cX7_readTable 17 = .ok (.aload_n 0, 1) := by decide +kernel
theorem dX7_readTable_18 : decode cX7_readTable 18 = .ok (.invokevirtual 81, 3) := by decide +kernel
theorem dX7_readTable_21 : decode cX7_readTable 21 = .ok (.ifCond .eq 7, 3) := by decide +kernel
theorem dX7_readTable_24 : decode cX7_readTable 24 = .ok (.aload_n 0, 1) := by decide +kernel
theorem dX7_readTable_25 : decode cX7_readTable 25 = .ok (.invokevirtual 85, 3) := by decide +kernel
theorem dX7_readTable_28 : decode cX7_readTable 28 = .ok (.aload_n 0, 1) := by decide +kernel
theorem dX7_readTable_29 : decode cX7_readTable 29 = .ok (.invokevirtual 81, 3) := by decide +kernel
theorem dX7_readTable_32 : decode cX7_readTable 32 = .ok (.ifCond .eq 15, 3) := by decide +kernel
theorem dX7_readTable_35 : decode cX7_readTable 35 = .ok (.aload_n 0, 1) := by decide +kernel
theorem dX7_readTable_36 : decode cX7_readTable 36 = .ok (.getfield 53, 3) := by decide +kernel
theorem dX7_readTable_39 : decode cX7_readTable 39 = .ok (.iconst 2, 1) := by decide +kernel
theorem dX7_readTable_40 : decode cX7_readTable 40 = .ok (.if_icmp .eq 7, 3) := by decide +kernel
theorem dX7_readTable_43 : decode cX7_readTable 43 = .ok (.aload_n 0, 1) := by decide +kernel
theorem dX7_readTable_44 : decode cX7_readTable 44 = .ok (.invokevirtual 89, 3) := by decide +kernel
theorem dX7_readTable_47 : decode cX7_readTable 47 = .ok (.aload_n 0, 1) := by decide +kernel
theorem dX7_readTable_48 : decode cX7_readTable 48 = .ok (.invokevirtual 81, 3) := by decide +kernel
theorem dX7_readTable_51 : decode cX7_readTable 51 = .ok (.ifCond .eq 27, 3) := by decide +kernel
theorem dX7_readTable_54 : decode cX7_readTable 54 = .ok (.aload_n 0, 1) := by decide +kernel
theorem dX7_readTable_55 : decode cX7_readTable 55 = .ok (.aload_n 0, 1) := by decide +kernel
theorem dX7_readTable_56 : decode cX7_readTable 56 = .ok (.getfield 119, 3) := by decide +kernel
theorem dX7_readTable_59 : decode cX7_readTable 59 = .ok (.aload_n 0, 1) := by decide +kernel
theorem dX7_readTable_60 : decode cX7_readTable 60 = .ok (.getfield 60, 3) := by decide +kernel
theorem dX7_readTable_63 : decode cX7_readTable 63 = .ok (.invokevirtual 156, 3) := by decide +kernel
theorem dX7_readTable_66 : decode cX7_readTable 66 = .ok (.ifCond .lt 12, 3) := by decide +kernel
theorem dX7_readTable_69 : decode cX7_readTable 69 = .ok (.aload_n 0, 1) := by decide +kernel
theorem dX7_readTable_70 : decode cX7_readTable 70 = .ok (.iconst 3, 1) := by decide +kernel
theorem dX7_readTable_71 : decode cX7_readTable 71 = .ok (.aload_n 0, 1) := by decide +kernel
theorem dX7_readTable_72 : decode cX7_readTable 72 = .ok (.getfield 46, 3) := by decide +kernel
theorem dX7_readTable_75 : decode cX7_readTable 75 = .ok (.invokevirtual 77, 3) := by decide +kernel
theorem dX7_readTable_78 : decode cX7_readTable 78 = .ok (.aload_n 0, 1) := by decide +kernel
theorem dX7_readTable_79 : decode cX7_readTable 79 = .ok (.invokevirtual 81, 3) := by decide +kernel
theorem dX7_readTable_82 : decode cX7_readTable 82 = .ok (.ifCond .ne 4, 3) := by decide +kernel
theorem dX7_readTable_85 : decode cX7_readTable 85 = .ok (.return_, 1) := by decide +kernel
theorem dX7_readTable_86 : decode cX7_readTable 86 = .ok (.iconst 5, 1) := by decide +kernel
theorem dX7_readTable_87 : decode cX7_readTable 87 = .ok (.aload_n 0, 1) := by decide +kernel
theorem dX7_readTable_88 : decode cX7_readTable 88 = .ok (.getfield 119, 3) := by decide +kernel
theorem dX7_readTable_91 : decode cX7_readTable 91 = .ok (.imul, 1) := by decide +kernel
theorem dX7_readTable_92 : decode cX7_readTable 92 = .ok (.aload_n 0, 1) := by decide +kernel
theorem dX7_readTable_93 : decode cX7_readTable 93 = .ok (.getfield 98, 3) := by decide +kernel
theorem dX7_readTable_96 : decode cX7_readTable 96 = .ok (.aload_n 0, 1) := by decide +kernel
theorem dX7_readTable_97 : decode cX7_readTable 97 = .ok (.getfield 119, 3) := by decide +kernel
theorem dX7_readTable_100 : decode cX7_readTable 100 = .ok (.iaload, 1) := by decide +kernel
theorem dX7_readTable_101 : decode cX7_readTable 101 = .ok (.iadd, 1) := by decide +kernel
theorem dX7_readTable_102 : decode cX7_readTable 102 = .ok (.istore_n 1, 1) := by decide +kernel
theorem dX7_readTable_103 : decode cX7_readTable 103 = .ok (.aload_n 0, 1) := by decide +kernel
theorem dX7_readTable_104 : decode cX7_readTable 104 = .ok (.getfield 102, 3) := by decide +kernel
theorem dX7_readTable_107 : decode cX7_readTable 107 = .ok (.iload_n 1, 1) := by decide +kernel
theorem dX7_readTable_108 : decode cX7_readTable 108 = .ok (.aload_n 0, 1) := by decide +kernel
theorem dX7_readTable_109 : decode cX7_readTable 109 = .ok (.getfield 60, 3) := by decide +kernel
theorem dX7_readTable_112 : decode cX7_readTable 112 = .ok (.lastore, 1) := by decide +kernel
theorem dX7_readTable_113 : decode cX7_readTable 113 = .ok (.aload_n 0, 1) := by decide +kernel
theorem dX7_readTable_114 : decode cX7_readTable 114 = .ok (.getfield 106, 3) := by decide +kernel
theorem dX7_readTable_117 : decode cX7_readTable 117 = .ok (.iload_n 1, 1) := by decide +kernel
theorem dX7_readTable_118 : decode cX7_readTable 118 = .ok (.iconst 0, 1) := by decide +kernel
theorem dX7_readTable_119 : decode cX7_readTable 119 = .ok (.iastore, 1) := by decide +kernel
theorem dX7_readTable_120 : decode cX7_readTable 120 = .ok (.aload_n 0, 1) := by decide +kernel
theorem dX7_readTable_121 : decode cX7_readTable 121 = .ok (.getfield 160, 3) := by decide +kernel
theorem dX7_readTable_124 : decode cX7_readTable 124 = .ok (.iload_n 1, 1) := by decide +kernel
theorem dX7_readTable_125 : decode cX7_readTable 125 = .ok (.iconst 0, 1) := by decide +kernel
theorem dX7_readTable_126 : decode cX7_readTable 126 = .ok (.iastore, 1) := by decide +kernel
theorem dX7_readTable_127 : decode cX7_readTable 127 = .ok (.aload_n 0, 1) := by decide +kernel
theorem dX7_readTable_128 : decode cX7_readTable 128 = .ok (.getfield 98, 3) := by decide +kernel
theorem dX7_readTable_131 : decode cX7_readTable 131 = .ok (.aload_n 0, 1) := by decide +kernel
theorem dX7_readTable_132 : decode cX7_readTable 132 = .ok (.getfield 119, 3) := by decide +kernel
theorem dX7_readTable_135 : decode cX7_readTable 135 = .ok (.dup2, 1) := by decide +kernel
theorem dX7_readTable_136 : decode cX7_readTable 136 = .ok (.iaload, 1) := by decide +kernel
theorem dX7_readTable_137 : decode cX7_readTable 137 = .ok (.iconst 1, 1) := by decide +kernel
theorem dX7_readTable_138 : decode cX7_readTable 138 = .ok (.iadd, 1) := by decide +kernel
theorem dX7_readTable_139 : decode cX7_readTable 139 = .ok (.iastore, 1) := by decide +kernel
theorem dX7_readTable_140 : decode cX7_readTable 140 = .ok (.aload_n 0, 1) := by decide +kernel
theorem dX7_readTable_141 : decode cX7_readTable 141 = .ok (.invokevirtual 85, 3) := by decide +kernel
theorem dX7_readTable_144 : decode cX7_readTable 144 = .ok (.aload_n 0, 1) := by decide +kernel
theorem dX7_readTable_145 : decode cX7_readTable 145 = .ok (.aload_n 0, 1) := by decide +kernel
theorem dX7_readTable_146 : decode cX7_readTable 146 = .ok (.bipush 58, 2) := by decide +kernel
theorem dX7_readTable_148 : decode cX7_readTable 148 = .ok (.invokevirtual 163, 3) := by decide +kernel
theorem dX7_readTable_151 : decode cX7_readTable 151 = .ok (.invokevirtual 166, 3) := by decide +kernel
theorem dX7_readTable_154 : decode cX7_readTable 154 = .ok (.iconst 1, 1) := by decide +kernel
theorem dX7_readTable_155 : decode cX7_readTable 155 = .ok (.istore_n 2, 1) := by decide +kernel
theorem dX7_readTable_156 : decode cX7_readTable 156 = .ok (.iload_n 2, 1) := by decide +kernel
theorem dX7_readTable_157 : decode cX7_readTable 157 = .ok (.ifCond .eq 48, 3) := by decide +kernel
theorem dX7_readTable_160 : decode cX7_readTable 160 = .ok (.aload_n 0, 1) := by decide +kernel
theorem dX7_readTable_161 : decode cX7_readTable 161 = .ok (.invokevirtual 81, 3) := by decide +kernel
theorem dX7_readTable_164 : decode cX7_readTable 164 = .ok (.ifCond .eq 41, 3) := by decide +kernel
theorem dX7_readTable_167 : decode cX7_readTable 167 = .ok (.aload_n 0, 1) := by decide +kernel
theorem dX7_readTable_168 : decode cX7_readTable 168 = .ok (.iload_n 1, 1) := by decide +kernel
theorem dX7_readTable_169 : decode cX7_readTable 169 = .ok (.invokevirtual 169, 3) := by decide +kernel
theorem dX7_readTable_172 : decode cX7_readTable 172 = .ok (.aload_n 0, 1) := by decide +kernel
theorem dX7_readTable_173 : decode cX7_readTable 173 = .ok (.invokevirtual 81, 3) := by decide +kernel
theorem dX7_readTable_176 : decode cX7_readTable 176 = .ok (.ifCond .eq 16, 3) := by decide +kernel
theorem dX7_readTable_179 : decode cX7_readTable 179 = .ok (.aload_n 0, 1) := by decide +kernel
theorem dX7_readTable_180 : decode cX7_readTable 180 = .ok (.bipush 44, 2) := by decide +kernel
theorem dX7_readTable_182 : decode cX7_readTable 182 = .ok (.invokevirtual 163, 3) := by decide +kernel
theorem dX7_readTable_185 : decode cX7_readTable 185 = .ok (.ifCond .eq 7, 3) := by decide +kernel
theorem dX7_readTable_188 : decode cX7_readTable 188 = .ok (.iconst 1, 1) := by decide +kernel
theorem dX7_readTable_189 : decode cX7_readTable 189 = .ok (.goto 4, 3) := by decide +kernel
theorem dX7_readTable_192 : decode cX7_readTable 192 = .ok (.iconst 0, 1) := by decide +kernel
theorem dX7_readTable_193 : decode cX7_readTable 193 = .ok (.istore_n 2, 1) := by decide +kernel
theorem dX7_readTable_194 : decode cX7_readTable 194 = .ok (.iload_n 2, 1) := by decide +kernel
theorem dX7_readTable_195 : decode cX7_readTable 195 = .ok (.ifCond .eq (-39), 3) := by decide +kernel
theorem dX7_readTable_198 : decode cX7_readTable 198 = .ok (.aload_n 0, 1) := by decide +kernel
theorem dX7_readTable_199 : decode cX7_readTable 199 = .ok (.invokevirtual 85, 3) := by decide +kernel
theorem dX7_readTable_202 : decode cX7_readTable 202 = .ok (.goto (-46), 3) := by decide +kernel
theorem dX7_readTable_205 : decode cX7_readTable 205 = .ok (.aload_n 0, 1) := by decide +kernel
theorem dX7_readTable_206 : decode cX7_readTable 206 = .ok (.aload_n 0, 1) := by decide +kernel
theorem dX7_readTable_207 : decode cX7_readTable 207 = .ok (.bipush 59, 2) := by decide +kernel
theorem dX7_readTable_209 : decode cX7_readTable 209 = .ok (.invokevirtual 163, 3) := by decide +kernel
theorem dX7_readTable_212 : decode cX7_readTable 212 = .ok (.invokevirtual 166, 3) := by decide +kernel
theorem dX7_readTable_215 : decode cX7_readTable 215 = .ok (.return_, 1) := by decide +kernel
theorem dX7_readColumn_0 : decode cX7_readColumn 0 = .ok (.aload_n 0, 1) := by decide +kernel
theorem dX7_readColumn_1 : decode cX7_readColumn 1 = .ok (.getfield 53, 3) := by decide +kernel
theorem dX7_readColumn_4 : decode cX7_readColumn 4 = .ok (.iconst 2, 1) := by decide +kernel
theorem dX7_readColumn_5 : decode cX7_readColumn 5 = .ok (.if_icmp .ne 13, 3) := by decide +kernel
theorem dX7_readColumn_8 : decode cX7_readColumn 8 = .ok (.aload_n 0, 1) := by decide +kernel
theorem dX7_readColumn_9 : decode cX7_readColumn 9 = .ok (.getfield 106, 3) := by decide +kernel
theorem dX7_readColumn_12 : decode cX7_readColumn 12 = .ok (.iload_n 1, 1) := by decide +kernel
theorem dX7_readColumn_13 : decode cX7_readColumn 13 = .ok (.iaload, 1) := by decide +kernel
theorem dX7_readColumn_14 : decode cX7_readColumn 14 = .ok (.iconst 5, 1) := by decide +kernel
theorem dX7_readColumn_15 : decode cX7_readColumn 15 = .ok (.if_icmp .ne 7, 3) := by decide +kernel
theorem dX7_readColumn_18 : decode cX7_readColumn 18 = .ok (.aload_n 0, 1) := by decide +kernel
theorem dX7_readColumn_19 : decode cX7_readColumn 19 = .ok (.invokevirtual 89, 3) := by decide +kernel
theorem dX7_readColumn_22 : decode cX7_readColumn 22 = .ok (.aload_n 0, 1) := by decide +kernel
theorem dX7_readColumn_23 : decode cX7_readColumn 23 = .ok (.invokevirtual 81, 3) := by decide +kernel
theorem dX7_readColumn_26 : decode cX7_readColumn 26 = .ok (.ifCond .eq 24, 3) := by decide +kernel
theorem dX7_readColumn_29 : decode cX7_readColumn 29 = .ok (.aload_n 0, 1) := by decide +kernel
theorem dX7_readColumn_30 : decode cX7_readColumn 30 = .ok (.iload_n 1, 1) := by decide +kernel
theorem dX7_readColumn_31 : decode cX7_readColumn 31 = .ok (.aload_n 0, 1) := by decide +kernel
theorem dX7_readColumn_32 : decode cX7_readColumn 32 = .ok (.getfield 60, 3) := by decide +kernel
theorem dX7_readColumn_35 : decode cX7_readColumn 35 = .ok (.invokevirtual 172, 3) := by decide +kernel
theorem dX7_readColumn_38 : decode cX7_readColumn 38 = .ok (.ifCond .lt 12, 3) := by decide +kernel
theorem dX7_readColumn_41 : decode cX7_readColumn 41 = .ok (.aload_n 0, 1) := by decide +kernel
theorem dX7_readColumn_42 : decode cX7_readColumn 42 = .ok (.iconst 3, 1) := by decide +kernel
theorem dX7_readColumn_43 : decode cX7_readColumn 43 = .ok (.aload_n 0, 1) := by decide +kernel
theorem dX7_readColumn_44 : decode cX7_readColumn 44 = .ok (.getfield 46, 3) := by decide +kernel
theorem dX7_readColumn_47 : decode cX7_readColumn 47 = .ok (.invokevirtual 77, 3) := by decide +kernel
theorem dX7_readColumn_50 : decode cX7_readColumn 50 = .ok (.aload_n 0, 1) := by decide +kernel
theorem dX7_readColumn_51 : decode cX7_readColumn 51 = .ok (.invokevirtual 81, 3) := by decide +kernel
theorem dX7_readColumn_54 : decode cX7_readColumn 54 = .ok (.ifCond .ne 4, 3) := by decide +kernel
theorem dX7_readColumn_57 : decode cX7_readColumn 57 = .ok (.return_, 1) := by decide +kernel
theorem dX7_readColumn_58 : decode cX7_readColumn 58 = .ok (.iconst 5, 1) := by decide +kernel
theorem dX7_readColumn_59 : decode cX7_readColumn 59 = .ok (.iload_n 1, 1) := by decide +kernel
theorem dX7_readColumn_60 : decode cX7_readColumn 60 = .ok (.imul, 1) := by decide +kernel
theorem dX7_readColumn_61 : decode cX7_readColumn 61 = .ok (.aload_n 0, 1) := by decide +kernel
theorem dX7_readColumn_62 : decode cX7_readColumn 62 = .ok (.getfield 106, 3) := by decide +kernel
theorem dX7_readColumn_65 : decode cX7_readColumn 65 = .ok (.iload_n 1, 1) := by decide +kernel
theorem dX7_readColumn_66 : decode cX7_readColumn 66 = .ok (.iaload, 1) := by decide +kernel
theorem dX7_readColumn_67 : decode cX7_readColumn 67 = .ok (.iadd, 1) := by decide +kernel
theorem dX7_readColumn_68 : decode cX7_readColumn 68 = .ok (.istore_n 2, 1) := by decide +kernel
theorem dX7_readColumn_69 : decode cX7_readColumn 69 = .ok (.aload_n 0, 1) := by decide +kernel
theorem dX7_readColumn_70 : decode cX7_readColumn 70 = .ok (.getfield 109, 3) := by decide +kernel
theorem dX7_readColumn_73 : decode cX7_readColumn 73 = .ok (.iload_n 2, 1) := by decide +kernel
theorem dX7_readColumn_74 : decode cX7_readColumn 74 = .ok (.aload_n 0, 1) := by decide +kernel
theorem dX7_readColumn_75 : decode cX7_readColumn 75 = .ok (.getfield 60, 3) := by decide +kernel
theorem dX7_readColumn_78 : decode cX7_readColumn 78 = .ok (.lastore, 1) := by decide +kernel
theorem dX7_readColumn_79 : decode cX7_readColumn 79 = .ok (.aload_n 0, 1) := by decide +kernel
theorem dX7_readColumn_80 : decode cX7_readColumn 80 = .ok (.getfield 175, 3) := by decide +kernel
theorem dX7_readColumn_83 : decode cX7_readColumn 83 = .ok (.iload_n 2, 1) := by decide +kernel
theorem dX7_readColumn_84 : decode cX7_readColumn 84 = .ok (.iconst (-1), 1) := by decide +kernel
theorem dX7_readColumn_85 : decode cX7_readColumn 85 = .ok (.iastore, 1) := by decide +kernel
theorem dX7_readColumn_86 : decode cX7_readColumn 86 = .ok (.aload_n 0, 1) := by decide +kernel
theorem dX7_readColumn_87 : decode cX7_readColumn 87 = .ok (.getfield 106, 3) := by decide +kernel
theorem dX7_readColumn_90 : decode cX7_readColumn 90 = .ok (.iload_n 1, 1) := by decide +kernel
theorem dX7_readColumn_91 : decode cX7_readColumn 91 = .ok (.dup2, 1) := by decide +kernel
theorem dX7_readColumn_92 : decode cX7_readColumn 92 = .ok (.iaload, 1) := by decide +kernel
theorem dX7_readColumn_93 : decode cX7_readColumn 93 = .ok (.iconst 1, 1) := by decide +kernel
theorem dX7_readColumn_94 : decode cX7_readColumn 94 = .ok (.iadd, 1) := by decide +kernel
theorem dX7_readColumn_95 : decode cX7_readColumn 95 = .ok (.iastore, 1) := by decide +kernel
theorem dX7_readColumn_96 : decode cX7_readColumn 96 = .ok (.aload_n 0, 1) := by decide +kernel
theorem dX7_readColumn_97 : decode cX7_readColumn 97 = .ok (.invokevirtual 85, 3) := by decide +kernel
theorem dX7_readColumn_100 : decode cX7_readColumn 100 = .ok (.aload_n 0, 1) := by decide +kernel
theorem dX7_readColumn_101 : decode cX7_readColumn 101 = .ok (.ldc2_w 21, 3) := by decide +kernel
theorem dX7_readColumn_104 : decode cX7_readColumn 104 = .ok (.invokevirtual 125, 3) := by decide +kernel
theorem dX7_readColumn_107 : decode cX7_readColumn 107 = .ok (.ifCond .ne 4, 3) := by decide +kernel
theorem dX7_readColumn_110 : decode cX7_readColumn 110 = .ok (.return_, 1) := by decide +kernel
theorem dX7_readColumn_111 : decode cX7_readColumn 111 = .ok (.aload_n 0, 1) := by decide +kernel
theorem dX7_readColumn_112 : decode cX7_readColumn 112 = .ok (.invokevirtual 85, 3) := by decide +kernel
theorem dX7_readColumn_115 : decode cX7_readColumn 115 = .ok (.aload_n 0, 1) := by decide +kernel
theorem dX7_readColumn_116 : decode cX7_readColumn 116 = .ok (.getfield 53, 3) := by decide +kernel
theorem dX7_readColumn_119 : decode cX7_readColumn 119 = .ok (.iconst 2, 1) := by decide +kernel
theorem dX7_readColumn_120 : decode cX7_readColumn 120 = .ok (.if_icmp .eq 7, 3) := by decide +kernel
theorem dX7_readColumn_123 : decode cX7_readColumn 123 = .ok (.aload_n 0, 1) := by decide +kernel
theorem dX7_readColumn_124 : decode cX7_readColumn 124 = .ok (.invokevirtual 89, 3) := by decide +kernel
theorem dX7_readColumn_127 : decode cX7_readColumn 127 = .ok (.aload_n 0, 1) := by decide +kernel
theorem dX7_readColumn_128 : decode cX7_readColumn 128 = .ok (.invokevirtual 81, 3) := by decide +kernel
theorem dX7_readColumn_131 : decode cX7_readColumn 131 = .ok (.ifCond .ne 4, 3) := by decide +kernel
theorem dX7_readColumn_134 : decode cX7_readColumn 134 = .ok (.return_, 1) := by decide +kernel
theorem dX7_readColumn_135 : decode cX7_readColumn 135 = .ok (.aload_n 0, 1) := by decide +kernel
theorem dX7_readColumn_136 : decode cX7_readColumn 136 = .ok (.getfield 175, 3) := by decide +kernel
theorem dX7_readColumn_139 : decode cX7_readColumn 139 = .ok (.iload_n 2, 1) := by decide +kernel
theorem dX7_readColumn_140 : decode cX7_readColumn 140 = .ok (.aload_n 0, 1) := by decide +kernel
theorem dX7_readColumn_141 : decode cX7_readColumn 141 = .ok (.aload_n 0, 1) := by decide +kernel
theorem dX7_readColumn_142 : decode cX7_readColumn 142 = .ok (.getfield 119, 3) := by decide +kernel
theorem dX7_readColumn_145 : decode cX7_readColumn 145 = .ok (.aload_n 0, 1) := by decide +kernel
theorem dX7_readColumn_146 : decode cX7_readColumn 146 = .ok (.getfield 60, 3) := by decide +kernel
theorem dX7_readColumn_149 : decode cX7_readColumn 149 = .ok (.invokevirtual 156, 3) := by decide +kernel
theorem dX7_readColumn_152 : decode cX7_readColumn 152 = .ok (.iastore, 1) := by decide +kernel
theorem dX7_readColumn_153 : decode cX7_readColumn 153 = .ok (.aload_n 0, 1) := by decide +kernel
theorem dX7_readColumn_154 : decode cX7_readColumn 154 = .ok (.getfield 175, 3) := by decide +kernel
theorem dX7_readColumn_157 : decode cX7_readColumn 157 = .ok (.iload_n 2, 1) := by decide +kernel
theorem dX7_readColumn_158 : decode cX7_readColumn 158 = .ok (.iaload, 1) := by decide +kernel
theorem dX7_readColumn_159 : decode cX7_readColumn 159 = .ok (.ifCond .ge 12, 3) := by decide +kernel
theorem dX7_readColumn_162 : decode cX7_readColumn 162 = .ok (.aload_n 0, 1) := by decide +kernel
theorem dX7_readColumn_163 : decode cX7_readColumn 163 = .ok (.iconst 4, 1) := by decide +kernel
theorem dX7_readColumn_164 : decode cX7_readColumn 164 = .ok (.aload_n 0, 1) := by decide +kernel
theorem dX7_readColumn_165 : decode cX7_readColumn 165 = .ok (.getfield 46, 3) := by decide +kernel
theorem dX7_readColumn_168 : decode cX7_readColumn 168 = .ok (.invokevirtual 77, 3) := by decide +kernel
theorem dX7_readColumn_171 : decode cX7_readColumn 171 = .ok (.aload_n 0, 1) := by decide +kernel
theorem dX7_readColumn_172 : decode cX7_readColumn 172 = .ok (.invokevirtual 81, 3) := by decide +kernel
theorem dX7_readColumn_175 : decode cX7_readColumn 175 = .ok (.ifCond .eq 7, 3) := by decide +kernel
theorem dX7_readColumn_178 : decode cX7_readColumn 178 = .ok (.aload_n 0, 1) := by decide +kernel
theorem dX7_readColumn_179 : decode cX7_readColumn 179 = .ok (.invokevirtual 85, 3) := by decide +kernel
theorem dX7_readColumn_182 : decode cX7_readColumn 182 = .ok (.return_, 1) := by decide +kernel
theorem dX7_readRow_0 : decode cX7_readRow 0 = .ok (.aload_n 0, 1) := by decide +kernel
theorem dX7_readRow_1 : decode cX7_readRow 1 = .ok (.getfield 122, 3) := by decide +kernel
theorem dX7_readRow_4 : decode cX7_readRow 4 = .ok (.aload_n 0, 1) := by decide +kernel
theorem dX7_readRow_5 : decode cX7_readRow 5 = .ok (.getfield 119, 3) := by decide +kernel
theorem dX7_readRow_8 : decode cX7_readRow 8 = .ok (.iaload, 1) := by decide +kernel
theorem dX7_readRow_9 : decode cX7_readRow 9 = .ok (.bipush 16, 2) := by decide +kernel
theorem dX7_readRow_11 : decode cX7_readRow 11 = .ok (.if_icmp .ne 7, 3) := by decide +kernel
theorem dX7_readRow_14 : decode cX7_readRow 14 = .ok (.aload_n 0, 1) := by decide +kernel
theorem dX7_readRow_15 : decode cX7_readRow 15 = .ok (.invokevirtual 89, 3) := by decide +kernel
theorem dX7_readRow_18 : decode cX7_readRow 18 = .ok (.aload_n 0, 1) := by decide +kernel
theorem dX7_readRow_19 : decode cX7_readRow 19 = .ok (.invokevirtual 81, 3) := by decide +kernel
theorem dX7_readRow_22 : decode cX7_readRow 22 = .ok (.ifCond .eq 7, 3) := by decide +kernel
theorem dX7_readRow_25 : decode cX7_readRow 25 = .ok (.aload_n 0, 1) := by decide +kernel
theorem dX7_readRow_26 : decode cX7_readRow 26 = .ok (.invokevirtual 85, 3) := by decide +kernel
theorem dX7_readRow_29 : decode cX7_readRow 29 = .ok (.aload_n 0, 1) := by decide +kernel
theorem dX7_readRow_30 : decode cX7_readRow 30 = .ok (.invokevirtual 81, 3) := by decide +kernel
theorem dX7_readRow_33 : decode cX7_readRow 33 = .ok (.ifCond .eq 15, 3) := by decide +kernel
theorem dX7_readRow_36 : decode cX7_readRow 36 = .ok (.aload_n 0, 1) := by decide +kernel
theorem dX7_readRow_37 : decode cX7_readRow 37 = .ok (.getfield 53, 3) := by decide +kernel
theorem dX7_readRow_40 : decode cX7_readRow 40 = .ok (.iconst 2, 1) := by decide +kernel
theorem dX7_readRow_41 : decode cX7_readRow 41 = .ok (.if_icmp .eq 7, 3) := by decide +kernel
theorem dX7_readRow_44 : decode cX7_readRow 44 = .ok (.aload_n 0, 1) := by decide +kernel
theorem dX7_readRow_45 : decode cX7_readRow 45 = .ok (.invokevirtual 89, 3) := by decide +kernel
theorem dX7_readRow_48 : decode cX7_readRow 48 = .ok (.aload_n 0, 1) := by decide +kernel
theorem dX7_readRow_49 : decode cX7_readRow 49 = .ok (.invokevirtual 81, 3) := by decide +kernel
theorem dX7_readRow_52 : decode cX7_readRow 52 = .ok (.ifCond .ne 4, 3) := by decide +kernel
theorem dX7_readRow_55 : decode cX7_readRow 55 = .ok (.return_, 1) := by decide +kernel
theorem dX7_readRow_56 : decode cX7_readRow 56 = .ok (.aload_n 0, 1) := by decide +kernel
theorem dX7_readRow_57 : decode cX7_readRow 57 = .ok (.aload_n 0, 1) := by decide +kernel
theorem dX7_readRow_58 : decode cX7_readRow 58 = .ok (.getfield 119, 3) := by decide +kernel
theorem dX7_readRow_61 : decode cX7_readRow 61 = .ok (.aload_n 0, 1) := by decide +kernel
theorem dX7_readRow_62 : decode cX7_readRow 62 = .ok (.getfield 60, 3) := by decide +kernel
theorem dX7_readRow_65 : decode cX7_readRow 65 = .ok (.invokevirtual 156, 3) := by decide +kernel
theorem dX7_readRow_68 : decode cX7_readRow 68 = .ok (.istore_n 1, 1) := by decide +kernel
theorem dX7_readRow_69 : decode cX7_readRow 69 = .ok (.iload_n 1, 1) := by decide +kernel
theorem dX7_readRow_70 : decode cX7_readRow 70 = .ok (.ifCond .ge 12, 3) := by decide +kernel
theorem dX7_readRow_73 : decode cX7_readRow 73 = .ok (.aload_n 0, 1) := by decide +kernel
theorem dX7_readRow_74 : decode cX7_readRow 74 = .ok (.iconst 4, 1) := by decide +kernel
theorem dX7_readRow_75 : decode cX7_readRow 75 = .ok (.aload_n 0, 1) := by decide +kernel
theorem dX7_readRow_76 : decode cX7_readRow 76 = .ok (.getfield 46, 3) := by decide +kernel
theorem dX7_readRow_79 : decode cX7_readRow 79 = .ok (.invokevirtual 77, 3) := by decide +kernel
theorem dX7_readRow_82 : decode cX7_readRow 82 = .ok (.aload_n 0, 1) := by decide +kernel
theorem dX7_readRow_83 : decode cX7_readRow 83 = .ok (.invokevirtual 81, 3) := by decide +kernel
theorem dX7_readRow_86 : decode cX7_readRow 86 = .ok (.ifCond .ne 4, 3) := by decide +kernel
theorem dX7_readRow_89 : decode cX7_readRow 89 = .ok (.return_, 1) := by decide +kernel
theorem dX7_readRow_90 : decode cX7_readRow 90 = .ok (.bipush 16, 2) := by decide +kernel
theorem dX7_readRow_92 : decode cX7_readRow 92 = .ok (.aload_n 0, 1) := by decide +kernel
theorem dX7_readRow_93 : decode cX7_readRow 93 = .ok (.getfield 119, 3) := by decide +kernel
theorem dX7_readRow_96 : decode cX7_readRow 96 = .ok (.imul, 1) := by decide +kernel
theorem dX7_readRow_97 : decode cX7_readRow 97 = .ok (.aload_n 0, 1) := by decide +kernel
theorem dX7_readRow_98 : decode cX7_readRow 98 = .ok (.getfield 122, 3) := by decide +kernel
theorem dX7_readRow_101 : decode cX7_readRow 101 = .ok (.aload_n 0, 1) := by decide +kernel
theorem dX7_readRow_102 : decode cX7_readRow 102 = .ok (.getfield 119, 3) := by decide +kernel
theorem dX7_readRow_105 : decode cX7_readRow 105 = .ok (.iaload, 1) := by decide +kernel
theorem dX7_readRow_106 : decode cX7_readRow 106 = .ok (.iadd, 1) := by decide +kernel
theorem dX7_readRow_107 : decode cX7_readRow 107 = .ok (.istore_n 2, 1) := by decide +kernel
theorem dX7_readRow_108 : decode cX7_readRow 108 = .ok (.aload_n 0, 1) := by decide +kernel
theorem dX7_readRow_109 : decode cX7_readRow 109 = .ok (.invokevirtual 85, 3) := by decide +kernel
theorem dX7_readRow_112 : decode cX7_readRow 112 = .ok (.aload_n 0, 1) := by decide +kernel
theorem dX7_readRow_113 : decode cX7_readRow 113 = .ok (.aload_n 0, 1) := by decide +kernel
theorem dX7_readRow_114 : decode cX7_readRow 114 = .ok (.bipush 58, 2) := by decide +kernel
theorem dX7_readRow_116 : decode cX7_readRow 116 = .ok (.invokevirtual 163, 3) := by decide +kernel
theorem dX7_readRow_119 : decode cX7_readRow 119 = .ok (.invokevirtual 166, 3) := by decide +kernel
theorem dX7_readRow_122 : decode cX7_readRow 122 = .ok (.iconst 0, 1) := by decide +kernel
theorem dX7_readRow_123 : decode cX7_readRow 123 = .ok (.istore_n 3, 1) := by decide +kernel
theorem dX7_readRow_124 : decode cX7_readRow 124 = .ok (.iconst 1, 1) := by decide +kernel
theorem dX7_readRow_125 : decode cX7_readRow 125 = .ok (.istore 4, 2) := by decide +kernel
theorem dX7_readRow_127 : decode cX7_readRow 127 = .ok (.iload 4, 2) := by decide +kernel
theorem dX7_readRow_129 : decode cX7_readRow 129 = .ok (.ifCond .eq 96, 3) := by decide +kernel
theorem dX7_readRow_132 : decode cX7_readRow 132 = .ok (.aload_n 0, 1) := by decide +kernel
theorem dX7_readRow_133 : decode cX7_readRow 133 = .ok (.invokevirtual 81, 3) := by decide +kernel
theorem dX7_readRow_136 : decode cX7_readRow 136 = .ok (.ifCond .eq 89, 3) := by decide +kernel
theorem dX7_readRow_139 : decode cX7_readRow 139 = .ok (.iload_n 3, 1) := by decide +kernel
theorem dX7_readRow_140 : decode cX7_readRow 140 = .ok (.aload_n 0, 1) := by decide +kernel
theorem dX7_readRow_141 : decode cX7_readRow 141 = .ok (.getfield 106, 3) := by decide +kernel
theorem dX7_readRow_144 : decode cX7_readRow 144 = .ok (.iload_n 1, 1) := by decide +kernel
theorem dX7_readRow_145 : decode cX7_readRow 145 = .ok (.iaload, 1) := by decide +kernel
theorem dX7_readRow_146 : decode cX7_readRow 146 = .ok (.if_icmp .ne 7, 3) := by decide +kernel
theorem dX7_readRow_149 : decode cX7_readRow 149 = .ok (.aload_n 0, 1) := by decide +kernel
theorem dX7_readRow_150 : decode cX7_readRow 150 = .ok (.invokevirtual 89, 3) := by decide +kernel
theorem dX7_readRow_153 : decode cX7_readRow 153 = .ok (.aload_n 0, 1) := by decide +kernel
theorem dX7_readRow_154 : decode cX7_readRow 154 = .ok (.invokevirtual 81, 3) := by decide +kernel
theorem dX7_readRow_157 : decode cX7_readRow 157 = .ok (.ifCond .eq 30, 3) := by decide +kernel
theorem dX7_readRow_160 : decode cX7_readRow 160 = .ok (.aload_n 0, 1) := by decide +kernel
theorem dX7_readRow_161 : decode cX7_readRow 161 = .ok (.iconst 5, 1) := by decide +kernel
theorem dX7_readRow_162 : decode cX7_readRow 162 = .ok (.iload_n 2, 1) := by decide +kernel
theorem dX7_readRow_163 : decode cX7_readRow 163 = .ok (.imul, 1) := by decide +kernel
theorem dX7_readRow_164 : decode cX7_readRow 164 = .ok (.iload_n 3, 1) := by decide +kernel
theorem dX7_readRow_165 : decode cX7_readRow 165 = .ok (.iadd, 1) := by decide +kernel
theorem dX7_readRow_166 : decode cX7_readRow 166 = .ok (.aload_n 0, 1) := by decide +kernel
theorem dX7_readRow_167 : decode cX7_readRow 167 = .ok (.getfield 175, 3) := by decide +kernel
theorem dX7_readRow_170 : decode cX7_readRow 170 = .ok (.iconst 5, 1) := by decide +kernel
theorem dX7_readRow_171 : decode cX7_readRow 171 = .ok (.iload_n 1, 1) := by decide +kernel
theorem dX7_readRow_172 : decode cX7_readRow 172 = .ok (.imul, 1) := by decide +kernel
theorem dX7_readRow_173 : decode cX7_readRow 173 = .ok (.iload_n 3, 1) := by decide +kernel
theorem dX7_readRow_174 : decode cX7_readRow 174 = .ok (.iadd, 1) := by decide +kernel
theorem dX7_readRow_175 : decode cX7_readRow 175 = .ok (.iaload, 1) := by decide +kernel
theorem dX7_readRow_176 : decode cX7_readRow 176 = .ok (.ifCond .lt 7, 3) := by decide +kernel
theorem dX7_readRow_179 : decode cX7_readRow 179 = .ok (.iconst 1, 1) := by decide +kernel
theorem dX7_readRow_180 : decode cX7_readRow 180 = .ok (.goto 4, 3) := by decide +kernel
theorem dX7_readRow_183 : decode cX7_readRow 183 = .ok (.iconst 0, 1) := by decide +kernel
theorem dX7_readRow_184 : decode cX7_readRow 184 = .ok (.invokevirtual 178, 3) := by decide +kernel
theorem dX7_readRow_187 : decode cX7_readRow 187 = .ok (.iinc 3 1, 3) := by decide +kernel
theorem dX7_readRow_190 : decode cX7_readRow 190 = .ok (.aload_n 0, 1) := by decide +kernel
theorem dX7_readRow_191 : decode cX7_readRow 191 = .ok (.invokevirtual 81, 3) := by decide +kernel
theorem dX7_readRow_194 : decode cX7_readRow 194 = .ok (.ifCond .eq 16, 3) := by decide +kernel
theorem dX7_readRow_197 : decode cX7_readRow 197 = .ok (.aload_n 0, 1) := by decide +kernel
theorem dX7_readRow_198 : decode cX7_readRow 198 = .ok (.bipush 44, 2) := by decide +kernel
theorem dX7_readRow_200 : decode cX7_readRow 200 = .ok (.invokevirtual 163, 3) := by decide +kernel
theorem dX7_readRow_203 : decode cX7_readRow 203 = .ok (.ifCond .eq 7, 3) := by decide +kernel
theorem dX7_readRow_206 : decode cX7_readRow 206 = .ok (.iconst 1, 1) := by decide +kernel
theorem dX7_readRow_207 : decode cX7_readRow 207 = .ok (.goto 4, 3) := by decide +kernel
theorem dX7_readRow_210 : decode cX7_readRow 210 = .ok (.iconst 0, 1) := by decide +kernel
theorem dX7_readRow_211 : decode cX7_readRow 211 = .ok (.istore 4, 2) := by decide +kernel
theorem dX7_readRow_213 : decode cX7_readRow 213 = .ok (.iload 4, 2) := by decide +kernel
theorem dX7_readRow_215 : decode cX7_readRow 215 = .ok (.ifCond .eq (-88), 3) := by decide +kernel
theorem dX7_readRow_218 : decode cX7_readRow 218 = .ok (.aload_n 0, 1) := by decide +kernel
theorem dX7_readRow_219 : decode cX7_readRow 219 = .ok (.invokevirtual 85, 3) := by decide +kernel
theorem dX7_readRow_222 : decode cX7_readRow 222 = .ok (.goto (-95), 3) := by decide +kernel
theorem dX7_readRow_225 : decode cX7_readRow 225 = .ok (.aload_n 0, 1) := by decide +kernel
theorem dX7_readRow_226 : decode cX7_readRow 226 = .ok (.invokevirtual 81, 3) := by decide +kernel
theorem dX7_readRow_229 : decode cX7_readRow 229 = .ok (.ifCond .eq 17, 3) := by decide +kernel
theorem dX7_readRow_232 : decode cX7_readRow 232 = .ok (.iload_n 3, 1) := by decide +kernel
theorem dX7_readRow_233 : decode cX7_readRow 233 = .ok (.aload_n 0, 1) := by decide +kernel
theorem dX7_readRow_234 : decode cX7_readRow 234 = .ok (.getfield 106, 3) := by decide +kernel
theorem dX7_readRow_237 : decode cX7_readRow 237 = .ok (.iload_n 1, 1) := by decide +kernel
theorem dX7_readRow_238 : decode cX7_readRow 238 = .ok (.iaload, 1) := by decide +kernel
theorem dX7_readRow_239 : decode cX7_readRow 239 = .ok (.if_icmp .ge 7, 3) := by decide +kernel
theorem dX7_readRow_242 : decode cX7_readRow 242 = .ok (.aload_n 0, 1) := by decide +kernel
theorem dX7_readRow_243 : decode cX7_readRow 243 = .ok (.invokevirtual 89, 3) := by decide +kernel
theorem dX7_readRow_246 : decode cX7_readRow 246 = .ok (.aload_n 0, 1) := by decide +kernel
theorem dX7_readRow_247 : decode cX7_readRow 247 = .ok (.aload_n 0, 1) := by decide +kernel
theorem dX7_readRow_248 : decode cX7_readRow 248 = .ok (.bipush 59, 2) := by decide +kernel
theorem dX7_readRow_250 : decode cX7_readRow 250 = .ok (.invokevirtual 163, 3) := by decide +kernel
theorem dX7_readRow_253 : decode cX7_readRow 253 = .ok (.invokevirtual 166, 3) := by decide +kernel
theorem dX7_readRow_256 : decode cX7_readRow 256 = .ok (.aload_n 0, 1) := by decide +kernel
theorem dX7_readRow_257 : decode cX7_readRow 257 = .ok (.getfield 182, 3) := by decide +kernel
theorem dX7_readRow_260 : decode cX7_readRow 260 = .ok (.iload_n 2, 1) := by decide +kernel
theorem dX7_readRow_261 : decode cX7_readRow 261 = .ok (.iload_n 1, 1) := by decide +kernel
theorem dX7_readRow_262 : decode cX7_readRow 262 = .ok (.iastore, 1) := by decide +kernel
theorem dX7_readRow_263 : decode cX7_readRow 263 = .ok (.aload_n 0, 1) := by decide +kernel
theorem dX7_readRow_264 : decode cX7_readRow 264 = .ok (.getfield 185, 3) := by decide +kernel
theorem dX7_readRow_267 : decode cX7_readRow 267 = .ok (.iload_n 2, 1) := by decide +kernel
theorem dX7_readRow_268 : decode cX7_readRow 268 = .ok (.aload_n 0, 1) := by decide +kernel
theorem dX7_readRow_269 : decode cX7_readRow 269 = .ok (.getfield 160, 3) := by decide +kernel
theorem dX7_readRow_272 : decode cX7_readRow 272 = .ok (.iload_n 1, 1) := by decide +kernel
theorem dX7_readRow_273 : decode cX7_readRow 273 = .ok (.iaload, 1) := by decide +kernel
theorem dX7_readRow_274 : decode cX7_readRow 274 = .ok (.iastore, 1) := by decide +kernel
theorem dX7_readRow_275 : decode cX7_readRow 275 = .ok (.aload_n 0, 1) := by decide +kernel
theorem dX7_readRow_276 : decode cX7_readRow 276 = .ok (.getfield 160, 3) := by decide +kernel
theorem dX7_readRow_279 : decode cX7_readRow 279 = .ok (.iload_n 1, 1) := by decide +kernel
theorem dX7_readRow_280 : decode cX7_readRow 280 = .ok (.dup2, 1) := by decide +kernel
theorem dX7_readRow_281 : decode cX7_readRow 281 = .ok (.iaload, 1) := by decide +kernel
theorem dX7_readRow_282 : decode cX7_readRow 282 = .ok (.iconst 1, 1) := by decide +kernel
theorem dX7_readRow_283 : decode cX7_readRow 283 = .ok (.iadd, 1) := by decide +kernel
theorem dX7_readRow_284 : decode cX7_readRow 284 = .ok (.iastore, 1) := by decide +kernel
theorem dX7_readRow_285 : decode cX7_readRow 285 = .ok (.aload_n 0, 1) := by decide +kernel
theorem dX7_readRow_286 : decode cX7_readRow 286 = .ok (.getfield 122, 3) := by decide +kernel
theorem dX7_readRow_289 : decode cX7_readRow 289 = .ok (.aload_n 0, 1) := by decide +kernel
theorem dX7_readRow_290 : decode cX7_readRow 290 = .ok (.getfield 119, 3) := by decide +kernel
theorem dX7_readRow_293 : decode cX7_readRow 293 = .ok (.dup2, 1) := by decide +kernel
theorem dX7_readRow_294 : decode cX7_readRow 294 = .ok (.iaload, 1) := by decide +kernel
theorem dX7_readRow_295 : decode cX7_readRow 295 = .ok (.iconst 1, 1) := by decide +kernel
theorem dX7_readRow_296 : decode cX7_readRow 296 = .ok (.iadd, 1) := by decide +kernel
theorem dX7_readRow_297 : decode cX7_readRow 297 = .ok (.iastore, 1) := by decide +kernel
theorem dX7_readRow_298 : decode cX7_readRow 298 = .ok (.return_, 1) := by decide +kernel
theorem dX7_readValue_0 : decode cX7_readValue 0 = .ok (.aload_n 0, 1) := by decide +kernel
theorem dX7_readValue_1 : decode cX7_readValue 1 = .ok (.getfield 188, 3) := by decide +kernel
theorem dX7_readValue_4 : decode cX7_readValue 4 = .ok (.iload_n 1, 1) := by decide +kernel
theorem dX7_readValue_5 : decode cX7_readValue 5 = .ok (.iconst (-1), 1) := by decide +kernel
theorem dX7_readValue_6 : decode cX7_readValue 6 = .ok (.iastore, 1) := by decide +kernel
theorem dX7_readValue_7 : decode cX7_readValue 7 = .ok (.aload_n 0, 1) := by decide +kernel
theorem dX7_readValue_8 : decode cX7_readValue 8 = .ok (.bipush 45, 2) := by decide +kernel
theorem dX7_readValue_10 : decode cX7_readValue 10 = .ok (.invokevirtual 163, 3) := by decide +kernel
theorem dX7_readValue_13 : decode cX7_readValue 13 = .ok (.ifCond .eq 8, 3) := by decide +kernel
theorem dX7_readValue_16 : decode cX7_readValue 16 = .ok (.aload_n 0, 1) := by decide +kernel
theorem dX7_readValue_17 : decode cX7_readValue 17 = .ok (.invokevirtual 85, 3) := by decide +kernel
theorem dX7_readValue_20 : decode cX7_readValue 20 = .ok (.return_, 1) := by decide +kernel
theorem dX7_readValue_21 : decode cX7_readValue 21 = .ok (.iload_n 2, 1) := by decide +kernel
theorem dX7_readValue_22 : decode cX7_readValue 22 = .ok (.ifCond .eq 13, 3) := by decide +kernel
theorem dX7_readValue_25 : decode cX7_readValue 25 = .ok (.aload_n 0, 1) := by decide +kernel
theorem dX7_readValue_26 : decode cX7_readValue 26 = .ok (.aload_n 0, 1) := by decide +kernel
theorem dX7_readValue_27 : decode cX7_readValue 27 = .ok (.bipush 35, 2) := by decide +kernel
theorem dX7_readValue_29 : decode cX7_readValue 29 = .ok (.invokevirtual 163, 3) := by decide +kernel
theorem dX7_readValue_32 : decode cX7_readValue 32 = .ok (.invokevirtual 166, 3) := by decide +kernel
theorem dX7_readValue_35 : decode cX7_readValue 35 = .ok (.aload_n 0, 1) := by decide +kernel
theorem dX7_readValue_36 : decode cX7_readValue 36 = .ok (.getfield 191, 3) := by decide +kernel
theorem dX7_readValue_39 : decode cX7_readValue 39 = .ok (.iload_n 1, 1) := by decide +kernel
theorem dX7_readValue_40 : decode cX7_readValue 40 = .ok (.aload_n 0, 1) := by decide +kernel
theorem dX7_readValue_41 : decode cX7_readValue 41 = .ok (.getfield 46, 3) := by decide +kernel
theorem dX7_readValue_44 : decode cX7_readValue 44 = .ok (.iastore, 1) := by decide +kernel
theorem dX7_readValue_45 : decode cX7_readValue 45 = .ok (.aload_n 0, 1) := by decide +kernel
theorem dX7_readValue_46 : decode cX7_readValue 46 = .ok (.getfield 188, 3) := by decide +kernel
theorem dX7_readValue_49 : decode cX7_readValue 49 = .ok (.iload_n 1, 1) := by decide +kernel
theorem dX7_readValue_50 : decode cX7_readValue 50 = .ok (.aload_n 0, 1) := by decide +kernel
theorem dX7_readValue_51 : decode cX7_readValue 51 = .ok (.getfield 71, 3) := by decide +kernel
theorem dX7_readValue_54 : decode cX7_readValue 54 = .ok (.iastore, 1) := by decide +kernel
theorem dX7_readValue_55 : decode cX7_readValue 55 = .ok (.aload_n 0, 1) := by decide +kernel
theorem dX7_readValue_56 : decode cX7_readValue 56 = .ok (.aload_n 0, 1) := by decide +kernel
theorem dX7_readValue_57 : decode cX7_readValue 57 = .ok (.getfield 53, 3) := by decide +kernel
theorem dX7_readValue_60 : decode cX7_readValue 60 = .ok (.iconst 4, 1) := by decide +kernel
theorem dX7_readValue_61 : decode cX7_readValue 61 = .ok (.if_icmp .ne 7, 3) := by decide +kernel
theorem dX7_readValue_64 : decode cX7_readValue 64 = .ok (.iconst 1, 1) := by decide +kernel
theorem dX7_readValue_65 : decode cX7_readValue 65 = .ok (.goto 4, 3) := by decide +kernel
theorem dX7_readValue_68 : decode cX7_readValue 68 = .ok (.iconst 0, 1) := by decide +kernel
theorem dX7_readValue_69 : decode cX7_readValue 69 = .ok (.invokevirtual 166, 3) := by decide +kernel
theorem dX7_readValue_72 : decode cX7_readValue 72 = .ok (.return_, 1) := by decide +kernel
theorem dX7_checkLinks_0 : decode cX7_checkLinks 0 = .ok (.aload_n 0, 1) := by decide +kernel
theorem dX7_checkLinks_1 : decode cX7_checkLinks 1 = .ok (.getfield 182, 3) := by decide +kernel
theorem dX7_checkLinks_4 : decode cX7_checkLinks 4 = .ok (.iload_n 1, 1) := by decide +kernel
theorem dX7_checkLinks_5 : decode cX7_checkLinks 5 = .ok (.iaload, 1) := by decide +kernel
theorem dX7_checkLinks_6 : decode cX7_checkLinks 6 = .ok (.istore_n 2, 1) := by decide +kernel
theorem dX7_checkLinks_7 : decode cX7_checkLinks 7 = .ok (.iconst 0, 1) := by decide +kernel
theorem dX7_checkLinks_8 : decode cX7_checkLinks 8 = .ok (.istore_n 3, 1) := by decide +kernel
theorem dX7_checkLinks_9 : decode cX7_checkLinks 9 = .ok (.iload_n 3, 1) := by decide +kernel
theorem dX7_checkLinks_10 : decode cX7_checkLinks 10 = .ok (.aload_n 0, 1) := by decide +kernel
theorem dX7_checkLinks_11 : decode cX7_checkLinks 11 = .ok (.getfield 106, 3) := by decide +kernel
theorem dX7_checkLinks_14 : decode cX7_checkLinks 14 = .ok (.iload_n 2, 1) := by decide +kernel
theorem dX7_checkLinks_15 : decode cX7_checkLinks 15 = .ok (.iaload, 1) := by decide +kernel
theorem dX7_checkLinks_16 : decode cX7_checkLinks 16 = .ok (.if_icmp .ge 69, 3) := by decide +kernel
theorem dX7_checkLinks_19 : decode cX7_checkLinks 19 = .ok (.aload_n 0, 1) := by decide +kernel
theorem dX7_checkLinks_20 : decode cX7_checkLinks 20 = .ok (.invokevirtual 81, 3) := by decide +kernel
theorem dX7_checkLinks_23 : decode cX7_checkLinks 23 = .ok (.ifCond .eq 62, 3) := by decide +kernel
theorem dX7_checkLinks_26 : decode cX7_checkLinks 26 = .ok (.aload_n 0, 1) := by decide +kernel
theorem dX7_checkLinks_27 : decode cX7_checkLinks 27 = .ok (.getfield 175, 3) := by decide +kernel
theorem dX7_checkLinks_30 : decode cX7_checkLinks 30 = .ok (.iconst 5, 1) := by decide +kernel
theorem dX7_checkLinks_31 : decode cX7_checkLinks 31 = .ok (.iload_n 2, 1) := by decide +kernel
theorem dX7_checkLinks_32 : decode cX7_checkLinks 32 = .ok (.imul, 1) := by decide +kernel
theorem dX7_checkLinks_33 : decode cX7_checkLinks 33 = .ok (.iload_n 3, 1) := by decide +kernel
theorem dX7_checkLinks_34 : decode cX7_checkLinks 34 = .ok (.iadd, 1) := by decide +kernel
theorem dX7_checkLinks_35 : decode cX7_checkLinks 35 = .ok (.iaload, 1) := by decide +kernel
theorem dX7_checkLinks_36 : decode cX7_checkLinks 36 = .ok (.istore 4, 2) := by decide +kernel
theorem dX7_checkLinks_38 : decode cX7_checkLinks 38 = .ok (.iconst 5, 1) := by decide +kernel
theorem dX7_checkLinks_39 : decode cX7_checkLinks 39 = .ok (.iload_n 1, 1) := by decide +kernel
theorem dX7_checkLinks_40 : decode cX7_checkLinks 40 = .ok (.imul, 1) := by decide +kernel
theorem dX7_checkLinks_41 : decode cX7_checkLinks 41 = .ok (.iload_n 3, 1) := by decide +kernel
theorem dX7_checkLinks_42 : decode cX7_checkLinks 42 = .ok (.iadd, 1) := by decide +kernel
theorem dX7_checkLinks_43 : decode cX7_checkLinks 43 = .ok (.istore 5, 2) := by decide +kernel
theorem dX7_checkLinks_45 : decode cX7_checkLinks 45 = .ok (.iload 4, 2) := by decide +kernel
theorem dX7_checkLinks_47 : decode cX7_checkLinks 47 = .ok (.ifCond .lt 32, 3) := by decide +kernel
theorem dX7_checkLinks_50 : decode cX7_checkLinks 50 = .ok (.aload_n 0, 1) := by decide +kernel
theorem dX7_checkLinks_51 : decode cX7_checkLinks 51 = .ok (.getfield 188, 3) := by decide +kernel
theorem dX7_checkLinks_54 : decode cX7_checkLinks 54 = .ok (.iload 5, 2) := by decide +kernel
theorem dX7_checkLinks_56 : decode cX7_checkLinks 56 = .ok (.iaload, 1) := by decide +kernel
theorem dX7_checkLinks_57 : decode cX7_checkLinks 57 = .ok (.aload_n 0, 1) := by decide +kernel
theorem dX7_checkLinks_58 : decode cX7_checkLinks 58 = .ok (.getfield 160, 3) := by decide +kernel
theorem dX7_checkLinks_61 : decode cX7_checkLinks 61 = .ok (.iload 4, 2) := by decide +kernel
theorem dX7_checkLinks_63 : decode cX7_checkLinks 63 = .ok (.iaload, 1) := by decide +kernel
theorem dX7_checkLinks_64 : decode cX7_checkLinks 64 = .ok (.if_icmp .lt 15, 3) := by decide +kernel
theorem dX7_checkLinks_67 : decode cX7_checkLinks 67 = .ok (.aload_n 0, 1) := by decide +kernel
theorem dX7_checkLinks_68 : decode cX7_checkLinks 68 = .ok (.iconst 5, 1) := by decide +kernel
theorem dX7_checkLinks_69 : decode cX7_checkLinks 69 = .ok (.aload_n 0, 1) := by decide +kernel
theorem dX7_checkLinks_70 : decode cX7_checkLinks 70 = .ok (.getfield 191, 3) := by decide +kernel
theorem dX7_checkLinks_73 : decode cX7_checkLinks 73 = .ok (.iload 5, 2) := by decide +kernel
theorem dX7_checkLinks_75 : decode cX7_checkLinks 75 = .ok (.iaload, 1) := by decide +kernel
theorem dX7_checkLinks_76 : decode cX7_checkLinks 76 = .ok (.invokevirtual 77, 3) := by decide +kernel
theorem dX7_checkLinks_79 : decode cX7_checkLinks 79 = .ok (.iinc 3 1, 3) := by decide +kernel
theorem dX7_checkLinks_82 : decode cX7_checkLinks 82 = .ok (.goto (-73), 3) := by decide +kernel
theorem dX7_checkLinks_85 : decode cX7_checkLinks 85 = .ok (.return_, 1) := by decide +kernel
theorem dX7_fault_0 : decode cX7_fault 0 = .ok (.iload_n 1, 1) := by decide +kernel
theorem dX7_fault_1 : decode cX7_fault 1 = .ok (.ifCond .ne 10, 3) := by decide +kernel
theorem dX7_fault_4 : decode cX7_fault 4 = .ok (.aload_n 0, 1) := by decide +kernel
theorem dX7_fault_5 : decode cX7_fault 5 = .ok (.getfield 11, 3) := by decide +kernel
theorem dX7_fault_8 : decode cX7_fault 8 = .ok (.goto 16, 3) := by decide +kernel
theorem dX7_fault_11 : decode cX7_fault 11 = .ok (.iload_n 1, 1) := by decide +kernel
theorem dX7_fault_12 : decode cX7_fault 12 = .ok (.iconst 1, 1) := by decide +kernel
theorem dX7_fault_13 : decode cX7_fault 13 = .ok (.if_icmp .ne 10, 3) := by decide +kernel
theorem dX7_fault_16 : decode cX7_fault 16 = .ok (.aload_n 0, 1) := by decide +kernel
theorem dX7_fault_17 : decode cX7_fault 17 = .ok (.getfield 14, 3) := by decide +kernel
theorem dX7_fault_20 : decode cX7_fault 20 = .ok (.goto 4, 3) := by decide +kernel
theorem dX7_fault_23 : decode cX7_fault 23 = .ok (.iconst (-1), 1) := by decide +kernel
theorem dX7_fault_24 : decode cX7_fault 24 = .ok (.ireturn, 1) := by decide +kernel
theorem dX7_isRow_0 : decode cX7_isRow 0 = .ok (.iload_n 1, 1) := by decide +kernel
theorem dX7_isRow_1 : decode cX7_isRow 1 = .ok (.ifCond .lt 20, 3) := by decide +kernel
theorem dX7_isRow_4 : decode cX7_isRow 4 = .ok (.iload_n 1, 1) := by decide +kernel
theorem dX7_isRow_5 : decode cX7_isRow 5 = .ok (.aload_n 0, 1) := by decide +kernel
theorem dX7_isRow_6 : decode cX7_isRow 6 = .ok (.getfield 122, 3) := by decide +kernel
theorem dX7_isRow_9 : decode cX7_isRow 9 = .ok (.aload_n 0, 1) := by decide +kernel
theorem dX7_isRow_10 : decode cX7_isRow 10 = .ok (.getfield 116, 3) := by decide +kernel
theorem dX7_isRow_13 : decode cX7_isRow 13 = .ok (.iaload, 1) := by decide +kernel
theorem dX7_isRow_14 : decode cX7_isRow 14 = .ok (.if_icmp .ge 7, 3) := by decide +kernel
theorem dX7_isRow_17 : decode cX7_isRow 17 = .ok (.iconst 1, 1) := by decide +kernel
theorem dX7_isRow_18 : decode cX7_isRow 18 = .ok (.goto 4, 3) := by decide +kernel
theorem dX7_isRow_21 : decode cX7_isRow 21 = .ok (.iconst 0, 1) := by decide +kernel
theorem dX7_isRow_22 : decode cX7_isRow 22 = .ok (.ireturn, 1) := by decide +kernel
theorem dX7_tableAt_0 : decode cX7_tableAt 0 = .ok (.aload_n 0, 1) := by decide +kernel
theorem dX7_tableAt_1 : decode cX7_tableAt 1 = .ok (.getfield 182, 3) := by decide +kernel
theorem dX7_tableAt_4 : decode cX7_tableAt 4 = .ok (.bipush 16, 2) := by decide +kernel
theorem dX7_tableAt_6 : decode cX7_tableAt 6 = .ok (.aload_n 0, 1) := by decide +kernel
theorem dX7_tableAt_7 : decode cX7_tableAt 7 = .ok (.getfield 116, 3) := by decide +kernel
theorem dX7_tableAt_10 : decode cX7_tableAt 10 = .ok (.imul, 1) := by decide +kernel
theorem dX7_tableAt_11 : decode cX7_tableAt 11 = .ok (.iload_n 1, 1) := by decide +kernel
theorem dX7_tableAt_12 : decode cX7_tableAt 12 = .ok (.iadd, 1) := by decide +kernel
theorem dX7_tableAt_13 : decode cX7_tableAt 13 = .ok (.iaload, 1) := by decide +kernel
theorem dX7_tableAt_14 : decode cX7_tableAt 14 = .ok (.ireturn, 1) := by decide +kernel
theorem dX7_numberAt_0 : decode cX7_numberAt 0 = .ok (.aload_n 0, 1) := by decide +kernel
theorem dX7_numberAt_1 : decode cX7_numberAt 1 = .ok (.getfield 185, 3) := by decide +kernel
theorem dX7_numberAt_4 : decode cX7_numberAt 4 = .ok (.bipush 16, 2) := by decide +kernel
theorem dX7_numberAt_6 : decode cX7_numberAt 6 = .ok (.aload_n 0, 1) := by decide +kernel
theorem dX7_numberAt_7 : decode cX7_numberAt 7 = .ok (.getfield 116, 3) := by decide +kernel
theorem dX7_numberAt_10 : decode cX7_numberAt 10 = .ok (.imul, 1) := by decide +kernel
theorem dX7_numberAt_11 : decode cX7_numberAt 11 = .ok (.iload_n 1, 1) := by decide +kernel
theorem dX7_numberAt_12 : decode cX7_numberAt 12 = .ok (.iadd, 1) := by decide +kernel
theorem dX7_numberAt_13 : decode cX7_numberAt 13 = .ok (.iaload, 1) := by decide +kernel
theorem dX7_numberAt_14 : decode cX7_numberAt 14 = .ok (.ireturn, 1) := by decide +kernel
theorem dX7_valueAt_0 : decode cX7_valueAt 0 = .ok (.aload_n 0, 1) := by decide +kernel
theorem dX7_valueAt_1 : decode cX7_valueAt 1 = .ok (.getfield 188, 3) := by decide +kernel
theorem dX7_valueAt_4 : decode cX7_valueAt 4 = .ok (.iconst 5, 1) := by decide +kernel
theorem dX7_valueAt_5 : decode cX7_valueAt 5 = .ok (.bipush 16, 2) := by decide +kernel
theorem dX7_valueAt_7 : decode cX7_valueAt 7 = .ok (.aload_n 0, 1) := by decide +kernel
theorem dX7_valueAt_8 : decode cX7_valueAt 8 = .ok (.getfield 116, 3) := by decide +kernel
theorem dX7_valueAt_11 : decode cX7_valueAt 11 = .ok (.imul, 1) := by decide +kernel
theorem dX7_valueAt_12 : decode cX7_valueAt 12 = .ok (.iload_n 1, 1) := by decide +kernel
theorem dX7_valueAt_13 : decode cX7_valueAt 13 = .ok (.iadd, 1) := by decide +kernel
theorem dX7_valueAt_14 : decode cX7_valueAt 14 = .ok (.imul, 1) := by decide +kernel
theorem dX7_valueAt_15 : decode cX7_valueAt 15 = .ok (.iload_n 2, 1) := by decide +kernel
theorem dX7_valueAt_16 : decode cX7_valueAt 16 = .ok (.iadd, 1) := by decide +kernel
theorem dX7_valueAt_17 : decode cX7_valueAt 17 = .ok (.iaload, 1) := by decide +kernel
theorem dX7_valueAt_18 : decode cX7_valueAt 18 = .ok (.istore_n 3, 1) := by decide +kernel
theorem dX7_valueAt_19 : decode cX7_valueAt 19 = .ok (.aload_n 0, 1) := by decide +kernel
theorem dX7_valueAt_20 : decode cX7_valueAt 20 = .ok (.getfield 175, 3) := by decide +kernel
theorem dX7_valueAt_23 : decode cX7_valueAt 23 = .ok (.iconst 5, 1) := by decide +kernel
theorem dX7_valueAt_24 : decode cX7_valueAt 24 = .ok (.aload_n 0, 1) := by decide +kernel
theorem dX7_valueAt_25 : decode cX7_valueAt 25 = .ok (.iload_n 1, 1) := by decide +kernel
theorem dX7_valueAt_26 : decode cX7_valueAt 26 = .ok (.invokevirtual 194, 3) := by decide +kernel
theorem dX7_valueAt_29 : decode cX7_valueAt 29 = .ok (.imul, 1) := by decide +kernel
theorem dX7_valueAt_30 : decode cX7_valueAt 30 = .ok (.iload_n 2, 1) := by decide +kernel
theorem dX7_valueAt_31 : decode cX7_valueAt 31 = .ok (.iadd, 1) := by decide +kernel
theorem dX7_valueAt_32 : decode cX7_valueAt 32 = .ok (.iaload, 1) := by decide +kernel
theorem dX7_valueAt_33 : decode cX7_valueAt 33 = .ok (.istore 4, 2) := by decide +kernel
theorem dX7_valueAt_35 : decode cX7_valueAt 35 = .ok (.iload 4, 2) := by decide +kernel
theorem dX7_valueAt_37 : decode cX7_valueAt 37 = .ok (.ifCond .lt 7, 3) := by decide +kernel
theorem dX7_valueAt_40 : decode cX7_valueAt 40 = .ok (.iload_n 3, 1) := by decide +kernel
theorem dX7_valueAt_41 : decode cX7_valueAt 41 = .ok (.ifCond .ge 5, 3) := by decide +kernel
theorem dX7_valueAt_44 : decode cX7_valueAt 44 = .ok (.iload_n 3, 1) := by decide +kernel
theorem dX7_valueAt_45 : decode cX7_valueAt 45 = .ok (.ireturn, 1) := by decide +kernel
theorem dX7_valueAt_46 : decode cX7_valueAt 46 = .ok (.iconst 0, 1) := by decide +kernel
theorem dX7_valueAt_47 : decode cX7_valueAt 47 = .ok (.istore 5, 2) := by decide +kernel
theorem dX7_valueAt_49 : decode cX7_valueAt 49 = .ok (.iload 5, 2) := by decide +kernel
theorem dX7_valueAt_51 : decode cX7_valueAt 51 = .ok (.aload_n 0, 1) := by decide +kernel
theorem dX7_valueAt_52 : decode cX7_valueAt 52 = .ok (.getfield 122, 3) := by decide +kernel
theorem dX7_valueAt_55 : decode cX7_valueAt 55 = .ok (.aload_n 0, 1) := by decide +kernel
theorem dX7_valueAt_56 : decode cX7_valueAt 56 = .ok (.getfield 116, 3) := by decide +kernel
theorem dX7_valueAt_59 : decode cX7_valueAt 59 = .ok (.iaload, 1) := by decide +kernel
theorem dX7_valueAt_60 : decode cX7_valueAt 60 = .ok (.if_icmp .ge 33, 3) := by decide +kernel
theorem dX7_valueAt_63 : decode cX7_valueAt 63 = .ok (.aload_n 0, 1) := by decide +kernel
theorem dX7_valueAt_64 : decode cX7_valueAt 64 = .ok (.iload 5, 2) := by decide +kernel
theorem dX7_valueAt_66 : decode cX7_valueAt 66 = .ok (.invokevirtual 194, 3) := by decide +kernel
theorem dX7_valueAt_69 : decode cX7_valueAt 69 = .ok (.iload 4, 2) := by decide +kernel
theorem dX7_valueAt_71 : decode cX7_valueAt 71 = .ok (.if_icmp .ne 16, 3) := by decide +kernel
theorem dX7_valueAt_74 : decode cX7_valueAt 74 = .ok (.aload_n 0, 1) := by decide +kernel
theorem dX7_valueAt_75 : decode cX7_valueAt 75 = .ok (.iload 5, 2) := by decide +kernel
theorem dX7_valueAt_77 : decode cX7_valueAt 77 = .ok (.invokevirtual 197, 3) := by decide +kernel
theorem dX7_valueAt_80 : decode cX7_valueAt 80 = .ok (.iload_n 3, 1) := by decide +kernel
theorem dX7_valueAt_81 : decode cX7_valueAt 81 = .ok (.if_icmp .ne 6, 3) := by decide +kernel
theorem dX7_valueAt_84 : decode cX7_valueAt 84 = .ok (.iload 5, 2) := by decide +kernel
theorem dX7_valueAt_86 : decode cX7_valueAt 86 = .ok (.ireturn, 1) := by decide +kernel
theorem dX7_valueAt_87 : decode cX7_valueAt 87 = .ok (.iinc 5 1, 3) := by decide +kernel
theorem dX7_valueAt_90 : decode cX7_valueAt 90 = .ok (.goto (-41), 3) := by decide +kernel
theorem dX7_valueAt_93 : decode cX7_valueAt 93 = .ok (.iconst (-1), 1) := by decide +kernel
theorem dX7_valueAt_94 : decode cX7_valueAt 94 = .ok (.ireturn, 1) := by decide +kernel
theorem dX7_hasColumn_0 : decode cX7_hasColumn 0 = .ok (.aload_n 0, 1) := by decide +kernel
theorem dX7_hasColumn_1 : decode cX7_hasColumn 1 = .ok (.iload_n 1, 1) := by decide +kernel
theorem dX7_hasColumn_2 : decode cX7_hasColumn 2 = .ok (.invokevirtual 200, 3) := by decide +kernel
theorem dX7_hasColumn_5 : decode cX7_hasColumn 5 = .ok (.ifCond .eq 25, 3) := by decide +kernel
theorem dX7_hasColumn_8 : decode cX7_hasColumn 8 = .ok (.iload_n 2, 1) := by decide +kernel
theorem dX7_hasColumn_9 : decode cX7_hasColumn 9 = .ok (.ifCond .lt 21, 3) := by decide +kernel
theorem dX7_hasColumn_12 : decode cX7_hasColumn 12 = .ok (.iload_n 2, 1) := by decide +kernel
theorem dX7_hasColumn_13 : decode cX7_hasColumn 13 = .ok (.aload_n 0, 1) := by decide +kernel
theorem dX7_hasColumn_14 : decode cX7_hasColumn 14 = .ok (.getfield 106, 3) := by decide +kernel
theorem dX7_hasColumn_17 : decode cX7_hasColumn 17 = .ok (.aload_n 0, 1) := by decide +kernel
theorem dX7_hasColumn_18 : decode cX7_hasColumn 18 = .ok (.iload_n 1, 1) := by decide +kernel
theorem dX7_hasColumn_19 : decode cX7_hasColumn 19 = .ok (.invokevirtual 194, 3) := by decide +kernel
theorem dX7_hasColumn_22 : decode cX7_hasColumn 22 = .ok (.iaload, 1) := by decide +kernel
theorem dX7_hasColumn_23 : decode cX7_hasColumn 23 = .ok (.if_icmp .ge 7, 3) := by decide +kernel
theorem dX7_hasColumn_26 : decode cX7_hasColumn 26 = .ok (.iconst 1, 1) := by decide +kernel
theorem dX7_hasColumn_27 : decode cX7_hasColumn 27 = .ok (.goto 4, 3) := by decide +kernel
theorem dX7_hasColumn_30 : decode cX7_hasColumn 30 = .ok (.iconst 0, 1) := by decide +kernel
theorem dX7_hasColumn_31 : decode cX7_hasColumn 31 = .ok (.ireturn, 1) := by decide +kernel
theorem dX7_isLink_0 : decode cX7_isLink 0 = .ok (.aload_n 0, 1) := by decide +kernel
theorem dX7_isLink_1 : decode cX7_isLink 1 = .ok (.getfield 175, 3) := by decide +kernel
theorem dX7_isLink_4 : decode cX7_isLink 4 = .ok (.iconst 5, 1) := by decide +kernel
theorem dX7_isLink_5 : decode cX7_isLink 5 = .ok (.aload_n 0, 1) := by decide +kernel
theorem dX7_isLink_6 : decode cX7_isLink 6 = .ok (.iload_n 1, 1) := by decide +kernel
theorem dX7_isLink_7 : decode cX7_isLink 7 = .ok (.invokevirtual 194, 3) := by decide +kernel
theorem dX7_isLink_10 : decode cX7_isLink 10 = .ok (.imul, 1) := by decide +kernel
theorem dX7_isLink_11 : decode cX7_isLink 11 = .ok (.iload_n 2, 1) := by decide +kernel
theorem dX7_isLink_12 : decode cX7_isLink 12 = .ok (.iadd, 1) := by decide +kernel
theorem dX7_isLink_13 : decode cX7_isLink 13 = .ok (.iaload, 1) := by decide +kernel
theorem dX7_isLink_14 : decode cX7_isLink 14 = .ok (.ifCond .lt 7, 3) := by decide +kernel
theorem dX7_isLink_17 : decode cX7_isLink 17 = .ok (.iconst 1, 1) := by decide +kernel
theorem dX7_isLink_18 : decode cX7_isLink 18 = .ok (.goto 4, 3) := by decide +kernel
theorem dX7_isLink_21 : decode cX7_isLink 21 = .ok (.iconst 0, 1) := by decide +kernel
theorem dX7_isLink_22 : decode cX7_isLink 22 = .ok (.ireturn, 1) := by decide +kernel
theorem dX7_row_0 : decode cX7_row 0 = .ok (.aload_n 0, 1) := by decide +kernel
theorem dX7_row_1 : decode cX7_row 1 = .ok (.iload_n 1, 1) := by decide +kernel
theorem dX7_row_2 : decode cX7_row 2 = .ok (.invokevirtual 200, 3) := by decide +kernel
theorem dX7_row_5 : decode cX7_row 5 = .ok (.ifCond .ne 5, 3) := by decide +kernel
theorem dX7_row_8 : decode cX7_row 8 = .ok (.iconst (-1), 1) := by decide +kernel
theorem dX7_row_9 : decode cX7_row 9 = .ok (.ireturn, 1) := by decide +kernel
theorem dX7_row_10 : decode cX7_row 10 = .ok (.iload_n 2, 1) := by decide +kernel
theorem dX7_row_11 : decode cX7_row 11 = .ok (.ifCond .ne 18, 3) := by decide +kernel
theorem dX7_row_14 : decode cX7_row 14 = .ok (.aload_n 0, 1) := by decide +kernel
theorem dX7_row_15 : decode cX7_row 15 = .ok (.iload_n 1, 1) := by decide +kernel
theorem dX7_row_16 : decode cX7_row 16 = .ok (.invokevirtual 194, 3) := by decide +kernel
theorem dX7_row_19 : decode cX7_row 19 = .ok (.iconst 5, 1) := by decide +kernel
theorem dX7_row_20 : decode cX7_row 20 = .ok (.aload_n 0, 1) := by decide +kernel
theorem dX7_row_21 : decode cX7_row 21 = .ok (.getfield 116, 3) := by decide +kernel
theorem dX7_row_24 : decode cX7_row 24 = .ok (.imul, 1) := by decide +kernel
theorem dX7_row_25 : decode cX7_row 25 = .ok (.isub, 1) := by decide +kernel
theorem dX7_row_26 : decode cX7_row 26 = .ok (.goto 33, 3) := by decide +kernel
theorem dX7_row_29 : decode cX7_row 29 = .ok (.iload_n 2, 1) := by decide +kernel
theorem dX7_row_30 : decode cX7_row 30 = .ok (.iconst 1, 1) := by decide +kernel
theorem dX7_row_31 : decode cX7_row 31 = .ok (.if_icmp .ne 11, 3) := by decide +kernel
theorem dX7_row_34 : decode cX7_row 34 = .ok (.aload_n 0, 1) := by decide +kernel
theorem dX7_row_35 : decode cX7_row 35 = .ok (.iload_n 1, 1) := by decide +kernel
theorem dX7_row_36 : decode cX7_row 36 = .ok (.invokevirtual 197, 3) := by decide +kernel
theorem dX7_row_39 : decode cX7_row 39 = .ok (.goto 20, 3) := by decide +kernel
theorem dX7_row_42 : decode cX7_row 42 = .ok (.iload_n 2, 1) := by decide +kernel
theorem dX7_row_43 : decode cX7_row 43 = .ok (.iconst 2, 1) := by decide +kernel
theorem dX7_row_44 : decode cX7_row 44 = .ok (.if_icmp .ne 14, 3) := by decide +kernel
theorem dX7_row_47 : decode cX7_row 47 = .ok (.aload_n 0, 1) := by decide +kernel
theorem dX7_row_48 : decode cX7_row 48 = .ok (.getfield 147, 3) := by decide +kernel
theorem dX7_row_51 : decode cX7_row 51 = .ok (.iload_n 1, 1) := by decide +kernel
theorem dX7_row_52 : decode cX7_row 52 = .ok (.ishr, 1) := by decide +kernel
theorem dX7_row_53 : decode cX7_row 53 = .ok (.iconst 1, 1) := by decide +kernel
theorem dX7_row_54 : decode cX7_row 54 = .ok (.iand, 1) := by decide +kernel
theorem dX7_row_55 : decode cX7_row 55 = .ok (.goto 4, 3) := by decide +kernel
theorem dX7_row_58 : decode cX7_row 58 = .ok (.iconst (-1), 1) := by decide +kernel
theorem dX7_row_59 : decode cX7_row 59 = .ok (.ireturn, 1) := by decide +kernel
theorem dX7_value_0 : decode cX7_value 0 = .ok (.aload_n 0, 1) := by decide +kernel
theorem dX7_value_1 : decode cX7_value 1 = .ok (.iload_n 1, 1) := by decide +kernel
theorem dX7_value_2 : decode cX7_value 2 = .ok (.iload_n 2, 1) := by decide +kernel
theorem dX7_value_3 : decode cX7_value 3 = .ok (.invokevirtual 203, 3) := by decide +kernel
theorem dX7_value_6 : decode cX7_value 6 = .ok (.ifCond .eq 12, 3) := by decide +kernel
theorem dX7_value_9 : decode cX7_value 9 = .ok (.aload_n 0, 1) := by decide +kernel
theorem dX7_value_10 : decode cX7_value 10 = .ok (.iload_n 1, 1) := by decide +kernel
theorem dX7_value_11 : decode cX7_value 11 = .ok (.iload_n 2, 1) := by decide +kernel
theorem dX7_value_12 : decode cX7_value 12 = .ok (.invokevirtual 207, 3) := by decide +kernel
theorem dX7_value_15 : decode cX7_value 15 = .ok (.goto 4, 3) := by decide +kernel
theorem dX7_value_18 : decode cX7_value 18 = .ok (.iconst (-1), 1) := by decide +kernel
theorem dX7_value_19 : decode cX7_value 19 = .ok (.ireturn, 1) := by decide +kernel
theorem dX7_wishes_0 : decode cX7_wishes 0 = .ok (.aload_n 0, 1) := by decide +kernel
theorem dX7_wishes_1 : decode cX7_wishes 1 = .ok (.getfield 92, 3) := by decide +kernel
theorem dX7_wishes_4 : decode cX7_wishes 4 = .ok (.sipush 600, 3) := by decide +kernel
theorem dX7_wishes_7 : decode cX7_wishes 7 = .ok (.if_icmp .le 6, 3) := by decide +kernel
theorem dX7_wishes_10 : decode cX7_wishes 10 = .ok (.bipush (-2), 2) := by decide +kernel
theorem dX7_wishes_12 : decode cX7_wishes 12 = .ok (.ireturn, 1) := by decide +kernel
theorem dX7_wishes_13 : decode cX7_wishes 13 = .ok (.aload_n 0, 1) := by decide +kernel
theorem dX7_wishes_14 : decode cX7_wishes 14 = .ok (.iconst 1, 1) := by decide +kernel
theorem dX7_wishes_15 : decode cX7_wishes 15 = .ok (.invokevirtual 112, 3) := by decide +kernel
theorem dX7_wishes_18 : decode cX7_wishes 18 = .ok (.aload_n 0, 1) := by decide +kernel
theorem dX7_wishes_19 : decode cX7_wishes 19 = .ok (.iconst 1, 1) := by decide +kernel
theorem dX7_wishes_20 : decode cX7_wishes 20 = .ok (.aload_n 0, 1) := by decide +kernel
theorem dX7_wishes_21 : decode cX7_wishes 21 = .ok (.getfield 141, 3) := by decide +kernel
theorem dX7_wishes_24 : decode cX7_wishes 24 = .ok (.isub, 1) := by decide +kernel
theorem dX7_wishes_25 : decode cX7_wishes 25 = .ok (.putfield 211, 3) := by decide +kernel
theorem dX7_wishes_28 : decode cX7_wishes 28 = .ok (.aload_n 0, 1) := by decide +kernel
theorem dX7_wishes_29 : decode cX7_wishes 29 = .ok (.getfield 138, 3) := by decide +kernel
theorem dX7_wishes_32 : decode cX7_wishes 32 = .ok (.aload_n 0, 1) := by decide +kernel
theorem dX7_wishes_33 : decode cX7_wishes 33 = .ok (.getfield 211, 3) := by decide +kernel
theorem dX7_wishes_36 : decode cX7_wishes 36 = .ok (.iconst 0, 1) := by decide +kernel
theorem dX7_wishes_37 : decode cX7_wishes 37 = .ok (.iastore, 1) := by decide +kernel
theorem dX7_wishes_38 : decode cX7_wishes 38 = .ok (.aload_n 0, 1) := by decide +kernel
theorem dX7_wishes_39 : decode cX7_wishes 39 = .ok (.iconst 0, 1) := by decide +kernel
theorem dX7_wishes_40 : decode cX7_wishes 40 = .ok (.putfield 214, 3) := by decide +kernel
theorem dX7_wishes_43 : decode cX7_wishes 43 = .ok (.aload_n 0, 1) := by decide +kernel
theorem dX7_wishes_44 : decode cX7_wishes 44 = .ok (.iconst 0, 1) := by decide +kernel
theorem dX7_wishes_45 : decode cX7_wishes 45 = .ok (.putfield 217, 3) := by decide +kernel
theorem dX7_wishes_48 : decode cX7_wishes 48 = .ok (.aload_n 0, 1) := by decide +kernel
theorem dX7_wishes_49 : decode cX7_wishes 49 = .ok (.iconst 0, 1) := by decide +kernel
theorem dX7_wishes_50 : decode cX7_wishes 50 = .ok (.putfield 220, 3) := by decide +kernel
theorem dX7_wishes_53 : decode cX7_wishes 53 = .ok (.aload_n 0, 1) := by decide +kernel
theorem dX7_wishes_54 : decode cX7_wishes 54 = .ok (.invokevirtual 85, 3) := by decide +kernel
theorem dX7_wishes_57 : decode cX7_wishes 57 = .ok (.aload_n 0, 1) := by decide +kernel
theorem dX7_wishes_58 : decode cX7_wishes 58 = .ok (.invokevirtual 81, 3) := by decide +kernel
theorem dX7_wishes_61 : decode cX7_wishes 61 = .ok (.ifCond .eq 17, 3) := by decide +kernel
theorem dX7_wishes_64 : decode cX7_wishes 64 = .ok (.aload_n 0, 1) := by decide +kernel
theorem dX7_wishes_65 : decode cX7_wishes 65 = .ok (.getfield 53, 3) := by decide +kernel
theorem dX7_wishes_68 : decode cX7_wishes 68 = .ok (.ifCond .eq 10, 3) := by decide +kernel
theorem dX7_wishes_71 : decode cX7_wishes 71 = .ok (.aload_n 0, 1) := by decide +kernel
theorem dX7_wishes_72 : decode cX7_wishes 72 = .ok (.invokevirtual 223, 3) := by decide +kernel
theorem dX7_wishes_75 : decode cX7_wishes 75 = .ok (.goto (-18), 3) := by decide +kernel
theorem dX7_wishes_78 : decode cX7_wishes 78 = .ok (.aload_n 0, 1) := by decide +kernel
theorem dX7_wishes_79 : decode cX7_wishes 79 = .ok (.invokevirtual 81, 3) := by decide +kernel
theorem dX7_wishes_82 : decode cX7_wishes 82 = .ok (.ifCond .ne 5, 3) := by decide +kernel
theorem dX7_wishes_85 : decode cX7_wishes 85 = .ok (.iconst (-1), 1) := by decide +kernel
theorem dX7_wishes_86 : decode cX7_wishes 86 = .ok (.ireturn, 1) := by decide +kernel
theorem dX7_wishes_87 : decode cX7_wishes 87 = .ok (.aload_n 0, 1) := by decide +kernel
theorem dX7_wishes_88 : decode cX7_wishes 88 = .ok (.aload_n 0, 1) := by decide +kernel
theorem dX7_wishes_89 : decode cX7_wishes 89 = .ok (.getfield 211, 3) := by decide +kernel
theorem dX7_wishes_92 : decode cX7_wishes 92 = .ok (.putfield 141, 3) := by decide +kernel
theorem dX7_wishes_95 : decode cX7_wishes 95 = .ok (.aload_n 0, 1) := by decide +kernel
theorem dX7_wishes_96 : decode cX7_wishes 96 = .ok (.iconst 0, 1) := by decide +kernel
theorem dX7_wishes_97 : decode cX7_wishes 97 = .ok (.putfield 153, 3) := by decide +kernel
theorem dX7_wishes_100 : decode cX7_wishes 100 = .ok (.aload_n 0, 1) := by decide +kernel
theorem dX7_wishes_101 : decode cX7_wishes 101 = .ok (.getfield 138, 3) := by decide +kernel
theorem dX7_wishes_104 : decode cX7_wishes 104 = .ok (.aload_n 0, 1) := by decide +kernel
theorem dX7_wishes_105 : decode cX7_wishes 105 = .ok (.getfield 141, 3) := by decide +kernel
theorem dX7_wishes_108 : decode cX7_wishes 108 = .ok (.iaload, 1) := by decide +kernel
theorem dX7_wishes_109 : decode cX7_wishes 109 = .ok (.ireturn, 1) := by decide +kernel
theorem dX7_aTable_0 : decode cX7_aTable 0 = .ok (.aload_n 0, 1) := by decide +kernel
theorem dX7_aTable_1 : decode cX7_aTable 1 = .ok (.invokevirtual 81, 3) := by decide +kernel
theorem dX7_aTable_4 : decode cX7_aTable 4 = .ok (.ifCond .eq 15, 3) := by decide +kernel
theorem dX7_aTable_7 : decode cX7_aTable 7 = .ok (.aload_n 0, 1) := by decide +kernel
theorem dX7_aTable_8 : decode cX7_aTable 8 = .ok (.getfield 53, 3) := by decide +kernel
theorem dX7_aTable_11 : decode cX7_aTable 11 = .ok (.iconst 2, 1) := by decide +kernel
theorem dX7_aTable_12 : decode cX7_aTable 12 = .ok (.if_icmp .eq 7, 3) := by decide +kernel
theorem dX7_aTable_15 : decode cX7_aTable 15 = .ok (.aload_n 0, 1) := by decide +kernel
theorem dX7_aTable_16 : decode cX7_aTable 16 = .ok (.invokevirtual 89, 3) := by decide +kernel
theorem dX7_aTable_19 : decode cX7_aTable 19 = .ok (.aload_n 0, 1) := by decide +kernel
theorem dX7_aTable_20 : decode cX7_aTable 20 = .ok (.invokevirtual 81, 3) := by decide +kernel
theorem dX7_aTable_23 : decode cX7_aTable 23 = .ok (.ifCond .eq 18, 3) := by decide +kernel
theorem dX7_aTable_26 : decode cX7_aTable 26 = .ok (.aload_n 0, 1) := by decide +kernel
theorem dX7_aTable_27 : decode cX7_aTable 27 = .ok (.aload_n 0, 1) := by decide +kernel
theorem dX7_aTable_28 : decode cX7_aTable 28 = .ok (.getfield 116, 3) := by decide +kernel
theorem dX7_aTable_31 : decode cX7_aTable 31 = .ok (.aload_n 0, 1) := by decide +kernel
theorem dX7_aTable_32 : decode cX7_aTable 32 = .ok (.getfield 60, 3) := by decide +kernel
theorem dX7_aTable_35 : decode cX7_aTable 35 = .ok (.invokevirtual 156, 3) := by decide +kernel
theorem dX7_aTable_38 : decode cX7_aTable 38 = .ok (.goto 4, 3) := by decide +kernel
theorem dX7_aTable_41 : decode cX7_aTable 41 = .ok (.iconst (-1), 1) := by decide +kernel
theorem dX7_aTable_42 : decode cX7_aTable 42 = .ok (.istore_n 1, 1) := by decide +kernel
theorem dX7_aTable_43 : decode cX7_aTable 43 = .ok (.aload_n 0, 1) := by decide +kernel
theorem dX7_aTable_44 : decode cX7_aTable 44 = .ok (.invokevirtual 81, 3) := by decide +kernel
theorem dX7_aTable_47 : decode cX7_aTable 47 = .ok (.ifCond .eq 16, 3) := by decide +kernel
theorem dX7_aTable_50 : decode cX7_aTable 50 = .ok (.iload_n 1, 1) := by decide +kernel
theorem dX7_aTable_51 : decode cX7_aTable 51 = .ok (.ifCond .ge 12, 3) := by decide +kernel
theorem dX7_aTable_54 : decode cX7_aTable 54 = .ok (.aload_n 0, 1) := by decide +kernel
theorem dX7_aTable_55 : decode cX7_aTable 55 = .ok (.iconst 4, 1) := by decide +kernel
theorem dX7_aTable_56 : decode cX7_aTable 56 = .ok (.aload_n 0, 1) := by decide +kernel
theorem dX7_aTable_57 : decode cX7_aTable 57 = .ok (.getfield 46, 3) := by decide +kernel
theorem dX7_aTable_60 : decode cX7_aTable 60 = .ok (.invokevirtual 77, 3) := by decide +kernel
theorem dX7_aTable_63 : decode cX7_aTable 63 = .ok (.aload_n 0, 1) := by decide +kernel
theorem dX7_aTable_64 : decode cX7_aTable 64 = .ok (.invokevirtual 81, 3) := by decide +kernel
theorem dX7_aTable_67 : decode cX7_aTable 67 = .ok (.ifCond .eq 7, 3) := by decide +kernel
theorem dX7_aTable_70 : decode cX7_aTable 70 = .ok (.aload_n 0, 1) := by decide +kernel
theorem dX7_aTable_71 : decode cX7_aTable 71 = .ok (.invokevirtual 85, 3) := by decide +kernel
theorem dX7_aTable_74 : decode cX7_aTable 74 = .ok (.iload_n 1, 1) := by decide +kernel
theorem dX7_aTable_75 : decode cX7_aTable 75 = .ok (.ireturn, 1) := by decide +kernel
theorem dX7_howMany_0 : decode cX7_howMany 0 = .ok (.aload_n 0, 1) := by decide +kernel
theorem dX7_howMany_1 : decode cX7_howMany 1 = .ok (.invokevirtual 81, 3) := by decide +kernel
theorem dX7_howMany_4 : decode cX7_howMany 4 = .ok (.ifCond .eq 15, 3) := by decide +kernel
theorem dX7_howMany_7 : decode cX7_howMany 7 = .ok (.aload_n 0, 1) := by decide +kernel
theorem dX7_howMany_8 : decode cX7_howMany 8 = .ok (.getfield 53, 3) := by decide +kernel
theorem dX7_howMany_11 : decode cX7_howMany 11 = .ok (.iconst 4, 1) := by decide +kernel
theorem dX7_howMany_12 : decode cX7_howMany 12 = .ok (.if_icmp .eq 7, 3) := by decide +kernel
theorem dX7_howMany_15 : decode cX7_howMany 15 = .ok (.aload_n 0, 1) := by decide +kernel
theorem dX7_howMany_16 : decode cX7_howMany 16 = .ok (.invokevirtual 89, 3) := by decide +kernel
theorem dX7_howMany_19 : decode cX7_howMany 19 = .ok (.aload_n 0, 1) := by decide +kernel
theorem dX7_howMany_20 : decode cX7_howMany 20 = .ok (.invokevirtual 81, 3) := by decide +kernel
theorem dX7_howMany_23 : decode cX7_howMany 23 = .ok (.ifCond .eq 30, 3) := by decide +kernel
theorem dX7_howMany_26 : decode cX7_howMany 26 = .ok (.aload_n 0, 1) := by decide +kernel
theorem dX7_howMany_27 : decode cX7_howMany 27 = .ok (.getfield 71, 3) := by decide +kernel
theorem dX7_howMany_30 : decode cX7_howMany 30 = .ok (.iconst 1, 1) := by decide +kernel
theorem dX7_howMany_31 : decode cX7_howMany 31 = .ok (.if_icmp .lt 12, 3) := by decide +kernel
theorem dX7_howMany_34 : decode cX7_howMany 34 = .ok (.aload_n 0, 1) := by decide +kernel
theorem dX7_howMany_35 : decode cX7_howMany 35 = .ok (.getfield 71, 3) := by decide +kernel
theorem dX7_howMany_38 : decode cX7_howMany 38 = .ok (.bipush 16, 2) := by decide +kernel
theorem dX7_howMany_40 : decode cX7_howMany 40 = .ok (.if_icmp .le 13, 3) := by decide +kernel
theorem dX7_howMany_43 : decode cX7_howMany 43 = .ok (.aload_n 0, 1) := by decide +kernel
theorem dX7_howMany_44 : decode cX7_howMany 44 = .ok (.bipush 6, 2) := by decide +kernel
theorem dX7_howMany_46 : decode cX7_howMany 46 = .ok (.aload_n 0, 1) := by decide +kernel
theorem dX7_howMany_47 : decode cX7_howMany 47 = .ok (.getfield 46, 3) := by decide +kernel
theorem dX7_howMany_50 : decode cX7_howMany 50 = .ok (.invokevirtual 77, 3) := by decide +kernel
theorem dX7_howMany_53 : decode cX7_howMany 53 = .ok (.aload_n 0, 1) := by decide +kernel
theorem dX7_howMany_54 : decode cX7_howMany 54 = .ok (.getfield 71, 3) := by decide +kernel
theorem dX7_howMany_57 : decode cX7_howMany 57 = .ok (.istore_n 1, 1) := by decide +kernel
theorem dX7_howMany_58 : decode cX7_howMany 58 = .ok (.aload_n 0, 1) := by decide +kernel
theorem dX7_howMany_59 : decode cX7_howMany 59 = .ok (.invokevirtual 81, 3) := by decide +kernel
theorem dX7_howMany_62 : decode cX7_howMany 62 = .ok (.ifCond .eq 7, 3) := by decide +kernel
theorem dX7_howMany_65 : decode cX7_howMany 65 = .ok (.aload_n 0, 1) := by decide +kernel
theorem dX7_howMany_66 : decode cX7_howMany 66 = .ok (.invokevirtual 85, 3) := by decide +kernel
theorem dX7_howMany_69 : decode cX7_howMany 69 = .ok (.iload_n 1, 1) := by decide +kernel
theorem dX7_howMany_70 : decode cX7_howMany 70 = .ok (.ireturn, 1) := by decide +kernel
theorem dX7_readWish_0 : decode cX7_readWish 0 = .ok (.aload_n 0, 1) := by decide +kernel
theorem dX7_readWish_1 : decode cX7_readWish 1 = .ok (.ldc2_w 25, 3) := by decide +kernel
theorem dX7_readWish_4 : decode cX7_readWish 4 = .ok (.invokevirtual 125, 3) := by decide +kernel
theorem dX7_readWish_7 : decode cX7_readWish 7 = .ok (.istore_n 1, 1) := by decide +kernel
theorem dX7_readWish_8 : decode cX7_readWish 8 = .ok (.iload_n 1, 1) := by decide +kernel
theorem dX7_readWish_9 : decode cX7_readWish 9 = .ok (.ifCond .ne 13, 3) := by decide +kernel
theorem dX7_readWish_12 : decode cX7_readWish 12 = .ok (.aload_n 0, 1) := by decide +kernel
theorem dX7_readWish_13 : decode cX7_readWish 13 = .ok (.ldc2_w 23, 3) := by decide +kernel
theorem dX7_readWish_16 : decode cX7_readWish 16 = .ok (.invokevirtual 125, 3) := by decide +kernel
theorem dX7_readWish_19 : decode cX7_readWish 19 = .ok (.ifCond .eq 17, 3) := by decide +kernel
theorem dX7_readWish_22 : decode cX7_readWish 22 = .ok (.aload_n 0, 1) := by decide +kernel
theorem dX7_readWish_23 : decode cX7_readWish 23 = .ok (.getfield 138, 3) := by decide +kernel
theorem dX7_readWish_26 : decode cX7_readWish 26 = .ok (.aload_n 0, 1) := by decide +kernel
theorem dX7_readWish_27 : decode cX7_readWish 27 = .ok (.getfield 211, 3) := by decide +kernel
theorem dX7_readWish_30 : decode cX7_readWish 30 = .ok (.iaload, 1) := by decide +kernel
theorem dX7_readWish_31 : decode cX7_readWish 31 = .ok (.bipush 10, 2) := by decide +kernel
theorem dX7_readWish_33 : decode cX7_readWish 33 = .ok (.if_icmp .ne 7, 3) := by decide +kernel
theorem dX7_readWish_36 : decode cX7_readWish 36 = .ok (.aload_n 0, 1) := by decide +kernel
theorem dX7_readWish_37 : decode cX7_readWish 37 = .ok (.invokevirtual 89, 3) := by decide +kernel
theorem dX7_readWish_40 : decode cX7_readWish 40 = .ok (.aload_n 0, 1) := by decide +kernel
theorem dX7_readWish_41 : decode cX7_readWish 41 = .ok (.invokevirtual 81, 3) := by decide +kernel
theorem dX7_readWish_44 : decode cX7_readWish 44 = .ok (.ifCond .ne 4, 3) := by decide +kernel
theorem dX7_readWish_47 : decode cX7_readWish 47 = .ok (.return_, 1) := by decide +kernel
theorem dX7_readWish_48 : decode cX7_readWish 48 = .ok (.bipush 10, 2) := by decide +kernel
theorem dX7_readWish_50 : decode cX7_readWish 50 = .ok (.aload_n 0, 1) := by decide +kernel
theorem dX7_readWish_51 : decode cX7_readWish 51 = .ok (.getfield 211, 3) := by decide +kernel
theorem dX7_readWish_54 : decode cX7_readWish 54 = .ok (.imul, 1) := by decide +kernel
theorem dX7_readWish_55 : decode cX7_readWish 55 = .ok (.aload_n 0, 1) := by decide +kernel
theorem dX7_readWish_56 : decode cX7_readWish 56 = .ok (.getfield 138, 3) := by decide +kernel
theorem dX7_readWish_59 : decode cX7_readWish 59 = .ok (.aload_n 0, 1) := by decide +kernel
theorem dX7_readWish_60 : decode cX7_readWish 60 = .ok (.getfield 211, 3) := by decide +kernel
theorem dX7_readWish_63 : decode cX7_readWish 63 = .ok (.iaload, 1) := by decide +kernel
theorem dX7_readWish_64 : decode cX7_readWish 64 = .ok (.iadd, 1) := by decide +kernel
theorem dX7_readWish_65 : decode cX7_readWish 65 = .ok (.istore_n 2, 1) := by decide +kernel
theorem dX7_readWish_66 : decode cX7_readWish 66 = .ok (.aload_n 0, 1) := by decide +kernel
theorem dX7_readWish_67 : decode cX7_readWish 67 = .ok (.invokevirtual 85, 3) := by decide +kernel
theorem dX7_readWish_70 : decode cX7_readWish 70 = .ok (.aload_n 0, 1) := by decide +kernel
theorem dX7_readWish_71 : decode cX7_readWish 71 = .ok (.getfield 226, 3) := by decide +kernel
theorem dX7_readWish_74 : decode cX7_readWish 74 = .ok (.iload_n 2, 1) := by decide +kernel
theorem dX7_readWish_75 : decode cX7_readWish 75 = .ok (.iconst (-1), 1) := by decide +kernel
theorem dX7_readWish_76 : decode cX7_readWish 76 = .ok (.iastore, 1) := by decide +kernel
theorem dX7_readWish_77 : decode cX7_readWish 77 = .ok (.iload_n 1, 1) := by decide +kernel
theorem dX7_readWish_78 : decode cX7_readWish 78 = .ok (.ifCond .eq 13, 3) := by decide +kernel
theorem dX7_readWish_81 : decode cX7_readWish 81 = .ok (.aload_n 0, 1) := by decide +kernel
theorem dX7_readWish_82 : decode cX7_readWish 82 = .ok (.getfield 229, 3) := by decide +kernel
theorem dX7_readWish_85 : decode cX7_readWish 85 = .ok (.iload_n 2, 1) := by decide +kernel
theorem dX7_readWish_86 : decode cX7_readWish 86 = .ok (.aload_n 0, 1) := by decide +kernel
theorem dX7_readWish_87 : decode cX7_readWish 87 = .ok (.invokevirtual 232, 3) := by decide +kernel
theorem dX7_readWish_90 : decode cX7_readWish 90 = .ok (.iastore, 1) := by decide +kernel
theorem dX7_readWish_91 : decode cX7_readWish 91 = .ok (.iload_n 1, 1) := by decide +kernel
theorem dX7_readWish_92 : decode cX7_readWish 92 = .ok (.ifCond .eq 14, 3) := by decide +kernel
theorem dX7_readWish_95 : decode cX7_readWish 95 = .ok (.aload_n 0, 1) := by decide +kernel
theorem dX7_readWish_96 : decode cX7_readWish 96 = .ok (.aload_n 0, 1) := by decide +kernel
theorem dX7_readWish_97 : decode cX7_readWish 97 = .ok (.ldc2_w 29, 3) := by decide +kernel
theorem dX7_readWish_100 : decode cX7_readWish 100 = .ok (.invokevirtual 125, 3) := by decide +kernel
theorem dX7_readWish_103 : decode cX7_readWish 103 = .ok (.invokevirtual 166, 3) := by decide +kernel
theorem dX7_readWish_106 : decode cX7_readWish 106 = .ok (.aload_n 0, 1) := by decide +kernel
theorem dX7_readWish_107 : decode cX7_readWish 107 = .ok (.getfield 236, 3) := by decide +kernel
theorem dX7_readWish_110 : decode cX7_readWish 110 = .ok (.iload_n 2, 1) := by decide +kernel
theorem dX7_readWish_111 : decode cX7_readWish 111 = .ok (.aload_n 0, 1) := by decide +kernel
theorem dX7_readWish_112 : decode cX7_readWish 112 = .ok (.invokevirtual 239, 3) := by decide +kernel
theorem dX7_readWish_115 : decode cX7_readWish 115 = .ok (.iastore, 1) := by decide +kernel
theorem dX7_readWish_116 : decode cX7_readWish 116 = .ok (.iload_n 1, 1) := by decide +kernel
theorem dX7_readWish_117 : decode cX7_readWish 117 = .ok (.ifCond .eq 32, 3) := by decide +kernel
theorem dX7_readWish_120 : decode cX7_readWish 120 = .ok (.aload_n 0, 1) := by decide +kernel
theorem dX7_readWish_121 : decode cX7_readWish 121 = .ok (.getfield 226, 3) := by decide +kernel
theorem dX7_readWish_124 : decode cX7_readWish 124 = .ok (.iload_n 2, 1) := by decide +kernel
theorem dX7_readWish_125 : decode cX7_readWish 125 = .ok (.aload_n 0, 1) := by decide +kernel
theorem dX7_readWish_126 : decode cX7_readWish 126 = .ok (.invokevirtual 232, 3) := by decide +kernel
theorem dX7_readWish_129 : decode cX7_readWish 129 = .ok (.iastore, 1) := by decide +kernel
theorem dX7_readWish_130 : decode cX7_readWish 130 = .ok (.aload_n 0, 1) := by decide +kernel
theorem dX7_readWish_131 : decode cX7_readWish 131 = .ok (.aload_n 0, 1) := by decide +kernel
theorem dX7_readWish_132 : decode cX7_readWish 132 = .ok (.ldc2_w 31, 3) := by decide +kernel
theorem dX7_readWish_135 : decode cX7_readWish 135 = .ok (.invokevirtual 125, 3) := by decide +kernel
theorem dX7_readWish_138 : decode cX7_readWish 138 = .ok (.invokevirtual 166, 3) := by decide +kernel
theorem dX7_readWish_141 : decode cX7_readWish 141 = .ok (.aload_n 0, 1) := by decide +kernel
theorem dX7_readWish_142 : decode cX7_readWish 142 = .ok (.iload_n 2, 1) := by decide +kernel
theorem dX7_readWish_143 : decode cX7_readWish 143 = .ok (.invokevirtual 242, 3) := by decide +kernel
theorem dX7_readWish_146 : decode cX7_readWish 146 = .ok (.goto 13, 3) := by decide +kernel
theorem dX7_readWish_149 : decode cX7_readWish 149 = .ok (.aload_n 0, 1) := by decide +kernel
theorem dX7_readWish_150 : decode cX7_readWish 150 = .ok (.getfield 229, 3) := by decide +kernel
theorem dX7_readWish_153 : decode cX7_readWish 153 = .ok (.iload_n 2, 1) := by decide +kernel
theorem dX7_readWish_154 : decode cX7_readWish 154 = .ok (.aload_n 0, 1) := by decide +kernel
theorem dX7_readWish_155 : decode cX7_readWish 155 = .ok (.invokevirtual 232, 3) := by decide +kernel
theorem dX7_readWish_158 : decode cX7_readWish 158 = .ok (.iastore, 1) := by decide +kernel
theorem dX7_readWish_159 : decode cX7_readWish 159 = .ok (.aload_n 0, 1) := by decide +kernel
theorem dX7_readWish_160 : decode cX7_readWish 160 = .ok (.getfield 245, 3) := by decide +kernel
theorem dX7_readWish_163 : decode cX7_readWish 163 = .ok (.iload_n 2, 1) := by decide +kernel
theorem dX7_readWish_164 : decode cX7_readWish 164 = .ok (.aload_n 0, 1) := by decide +kernel
theorem dX7_readWish_165 : decode cX7_readWish 165 = .ok (.getfield 214, 3) := by decide +kernel
theorem dX7_readWish_168 : decode cX7_readWish 168 = .ok (.iastore, 1) := by decide +kernel
theorem dX7_readWish_169 : decode cX7_readWish 169 = .ok (.iload_n 1, 1) := by decide +kernel
theorem dX7_readWish_170 : decode cX7_readWish 170 = .ok (.ifCond .ne 29, 3) := by decide +kernel
theorem dX7_readWish_173 : decode cX7_readWish 173 = .ok (.aload_n 0, 1) := by decide +kernel
theorem dX7_readWish_174 : decode cX7_readWish 174 = .ok (.invokevirtual 81, 3) := by decide +kernel
theorem dX7_readWish_177 : decode cX7_readWish 177 = .ok (.ifCond .eq 22, 3) := by decide +kernel
theorem dX7_readWish_180 : decode cX7_readWish 180 = .ok (.aload_n 0, 1) := by decide +kernel
theorem dX7_readWish_181 : decode cX7_readWish 181 = .ok (.ldc2_w 27, 3) := by decide +kernel
theorem dX7_readWish_184 : decode cX7_readWish 184 = .ok (.invokevirtual 125, 3) := by decide +kernel
theorem dX7_readWish_187 : decode cX7_readWish 187 = .ok (.ifCond .eq 12, 3) := by decide +kernel
theorem dX7_readWish_190 : decode cX7_readWish 190 = .ok (.aload_n 0, 1) := by decide +kernel
theorem dX7_readWish_191 : decode cX7_readWish 191 = .ok (.invokevirtual 85, 3) := by decide +kernel
theorem dX7_readWish_194 : decode cX7_readWish 194 = .ok (.aload_n 0, 1) := by decide +kernel
theorem dX7_readWish_195 : decode cX7_readWish 195 = .ok (.iload_n 2, 1) := by decide +kernel
theorem dX7_readWish_196 : decode cX7_readWish 196 = .ok (.invokevirtual 248, 3) := by decide +kernel
theorem dX7_readWish_199 : decode cX7_readWish 199 = .ok (.aload_n 0, 1) := by decide +kernel
theorem dX7_readWish_200 : decode cX7_readWish 200 = .ok (.getfield 251, 3) := by decide +kernel
theorem dX7_readWish_203 : decode cX7_readWish 203 = .ok (.iload_n 2, 1) := by decide +kernel
theorem dX7_readWish_204 : decode cX7_readWish 204 = .ok (.aload_n 0, 1) := by decide +kernel
theorem dX7_readWish_205 : decode cX7_readWish 205 = .ok (.getfield 214, 3) := by decide +kernel
theorem dX7_readWish_208 : decode cX7_readWish 208 = .ok (.iastore, 1) := by decide +kernel
theorem dX7_readWish_209 : decode cX7_readWish 209 = .ok (.aload_n 0, 1) := by decide +kernel
theorem dX7_readWish_210 : decode cX7_readWish 210 = .ok (.aload_n 0, 1) := by decide +kernel
theorem dX7_readWish_211 : decode cX7_readWish 211 = .ok (.bipush 59, 2) := by decide +kernel
theorem dX7_readWish_213 : decode cX7_readWish 213 = .ok (.invokevirtual 163, 3) := by decide +kernel
theorem dX7_readWish_216 : decode cX7_readWish 216 = .ok (.invokevirtual 166, 3) := by decide +kernel
theorem dX7_readWish_219 : decode cX7_readWish 219 = .ok (.aload_n 0, 1) := by decide +kernel
theorem dX7_readWish_220 : decode cX7_readWish 220 = .ok (.getfield 138, 3) := by decide +kernel
theorem dX7_readWish_223 : decode cX7_readWish 223 = .ok (.aload_n 0, 1) := by decide +kernel
theorem dX7_readWish_224 : decode cX7_readWish 224 = .ok (.getfield 211, 3) := by decide +kernel
theorem dX7_readWish_227 : decode cX7_readWish 227 = .ok (.dup2, 1) := by decide +kernel
theorem dX7_readWish_228 : decode cX7_readWish 228 = .ok (.iaload, 1) := by decide +kernel
theorem dX7_readWish_229 : decode cX7_readWish 229 = .ok (.iconst 1, 1) := by decide +kernel
theorem dX7_readWish_230 : decode cX7_readWish 230 = .ok (.iadd, 1) := by decide +kernel
theorem dX7_readWish_231 : decode cX7_readWish 231 = .ok (.iastore, 1) := by decide +kernel
theorem dX7_readWish_232 : decode cX7_readWish 232 = .ok (.return_, 1) := by decide +kernel
theorem dX7_readBy_0 : decode cX7_readBy 0 = .ok (.aload_n 0, 1) := by decide +kernel
theorem dX7_readBy_1 : decode cX7_readBy 1 = .ok (.invokevirtual 81, 3) := by decide +kernel
theorem dX7_readBy_4 : decode cX7_readBy 4 = .ok (.ifCond .eq 15, 3) := by decide +kernel
theorem dX7_readBy_7 : decode cX7_readBy 7 = .ok (.aload_n 0, 1) := by decide +kernel
theorem dX7_readBy_8 : decode cX7_readBy 8 = .ok (.getfield 53, 3) := by decide +kernel
theorem dX7_readBy_11 : decode cX7_readBy 11 = .ok (.iconst 2, 1) := by decide +kernel
theorem dX7_readBy_12 : decode cX7_readBy 12 = .ok (.if_icmp .eq 7, 3) := by decide +kernel
theorem dX7_readBy_15 : decode cX7_readBy 15 = .ok (.aload_n 0, 1) := by decide +kernel
theorem dX7_readBy_16 : decode cX7_readBy 16 = .ok (.invokevirtual 89, 3) := by decide +kernel
theorem dX7_readBy_19 : decode cX7_readBy 19 = .ok (.aload_n 0, 1) := by decide +kernel
theorem dX7_readBy_20 : decode cX7_readBy 20 = .ok (.invokevirtual 81, 3) := by decide +kernel
theorem dX7_readBy_23 : decode cX7_readBy 23 = .ok (.ifCond .ne 4, 3) := by decide +kernel
theorem dX7_readBy_26 : decode cX7_readBy 26 = .ok (.return_, 1) := by decide +kernel
theorem dX7_readBy_27 : decode cX7_readBy 27 = .ok (.aload_n 0, 1) := by decide +kernel
theorem dX7_readBy_28 : decode cX7_readBy 28 = .ok (.aload_n 0, 1) := by decide +kernel
theorem dX7_readBy_29 : decode cX7_readBy 29 = .ok (.getfield 226, 3) := by decide +kernel
theorem dX7_readBy_32 : decode cX7_readBy 32 = .ok (.iload_n 1, 1) := by decide +kernel
theorem dX7_readBy_33 : decode cX7_readBy 33 = .ok (.iaload, 1) := by decide +kernel
theorem dX7_readBy_34 : decode cX7_readBy 34 = .ok (.aload_n 0, 1) := by decide +kernel
theorem dX7_readBy_35 : decode cX7_readBy 35 = .ok (.getfield 60, 3) := by decide +kernel
theorem dX7_readBy_38 : decode cX7_readBy 38 = .ok (.invokevirtual 172, 3) := by decide +kernel
theorem dX7_readBy_41 : decode cX7_readBy 41 = .ok (.istore_n 2, 1) := by decide +kernel
theorem dX7_readBy_42 : decode cX7_readBy 42 = .ok (.iload_n 2, 1) := by decide +kernel
theorem dX7_readBy_43 : decode cX7_readBy 43 = .ok (.ifCond .lt 18, 3) := by decide +kernel
theorem dX7_readBy_46 : decode cX7_readBy 46 = .ok (.aload_n 0, 1) := by decide +kernel
theorem dX7_readBy_47 : decode cX7_readBy 47 = .ok (.getfield 175, 3) := by decide +kernel
theorem dX7_readBy_50 : decode cX7_readBy 50 = .ok (.iload_n 2, 1) := by decide +kernel
theorem dX7_readBy_51 : decode cX7_readBy 51 = .ok (.iaload, 1) := by decide +kernel
theorem dX7_readBy_52 : decode cX7_readBy 52 = .ok (.aload_n 0, 1) := by decide +kernel
theorem dX7_readBy_53 : decode cX7_readBy 53 = .ok (.getfield 229, 3) := by decide +kernel
theorem dX7_readBy_56 : decode cX7_readBy 56 = .ok (.iload_n 1, 1) := by decide +kernel
theorem dX7_readBy_57 : decode cX7_readBy 57 = .ok (.iaload, 1) := by decide +kernel
theorem dX7_readBy_58 : decode cX7_readBy 58 = .ok (.if_icmp .eq 12, 3) := by decide +kernel
theorem dX7_readBy_61 : decode cX7_readBy 61 = .ok (.aload_n 0, 1) := by decide +kernel
theorem dX7_readBy_62 : decode cX7_readBy 62 = .ok (.iconst 4, 1) := by decide +kernel
theorem dX7_readBy_63 : decode cX7_readBy 63 = .ok (.aload_n 0, 1) := by decide +kernel
theorem dX7_readBy_64 : decode cX7_readBy 64 = .ok (.getfield 46, 3) := by decide +kernel
theorem dX7_readBy_67 : decode cX7_readBy 67 = .ok (.invokevirtual 77, 3) := by decide +kernel
theorem dX7_readBy_70 : decode cX7_readBy 70 = .ok (.aload_n 0, 1) := by decide +kernel
theorem dX7_readBy_71 : decode cX7_readBy 71 = .ok (.invokevirtual 81, 3) := by decide +kernel
theorem dX7_readBy_74 : decode cX7_readBy 74 = .ok (.ifCond .ne 4, 3) := by decide +kernel
theorem dX7_readBy_77 : decode cX7_readBy 77 = .ok (.return_, 1) := by decide +kernel
theorem dX7_readBy_78 : decode cX7_readBy 78 = .ok (.aload_n 0, 1) := by decide +kernel
theorem dX7_readBy_79 : decode cX7_readBy 79 = .ok (.getfield 254, 3) := by decide +kernel
theorem dX7_readBy_82 : decode cX7_readBy 82 = .ok (.iload_n 1, 1) := by decide +kernel
theorem dX7_readBy_83 : decode cX7_readBy 83 = .ok (.iload_n 2, 1) := by decide +kernel
theorem dX7_readBy_84 : decode cX7_readBy 84 = .ok (.iconst 5, 1) := by decide +kernel
theorem dX7_readBy_85 : decode cX7_readBy 85 = .ok (.aload_n 0, 1) := by decide +kernel
theorem dX7_readBy_86 : decode cX7_readBy 86 = .ok (.getfield 226, 3) := by decide +kernel
theorem dX7_readBy_89 : decode cX7_readBy 89 = .ok (.iload_n 1, 1) := by decide +kernel
theorem dX7_readBy_90 : decode cX7_readBy 90 = .ok (.iaload, 1) := by decide +kernel
theorem dX7_readBy_91 : decode cX7_readBy 91 = .ok (.imul, 1) := by decide +kernel
theorem dX7_readBy_92 : decode cX7_readBy 92 = .ok (.isub, 1) := by decide +kernel
theorem dX7_readBy_93 : decode cX7_readBy 93 = .ok (.iastore, 1) := by decide +kernel
theorem dX7_readBy_94 : decode cX7_readBy 94 = .ok (.aload_n 0, 1) := by decide +kernel
theorem dX7_readBy_95 : decode cX7_readBy 95 = .ok (.invokevirtual 85, 3) := by decide +kernel
theorem dX7_readBy_98 : decode cX7_readBy 98 = .ok (.return_, 1) := by decide +kernel
theorem dX7_step_0 : decode cX7_step 0 = .ok (.aload_n 0, 1) := by decide +kernel
theorem dX7_step_1 : decode cX7_step 1 = .ok (.getfield 257, 3) := by decide +kernel
theorem dX7_step_4 : decode cX7_step 4 = .ok (.sipush 600, 3) := by decide +kernel
theorem dX7_step_7 : decode cX7_step 7 = .ok (.aload_n 0, 1) := by decide +kernel
theorem dX7_step_8 : decode cX7_step 8 = .ok (.getfield 211, 3) := by decide +kernel
theorem dX7_step_11 : decode cX7_step 11 = .ok (.imul, 1) := by decide +kernel
theorem dX7_step_12 : decode cX7_step 12 = .ok (.aload_n 0, 1) := by decide +kernel
theorem dX7_step_13 : decode cX7_step 13 = .ok (.getfield 214, 3) := by decide +kernel
theorem dX7_step_16 : decode cX7_step 16 = .ok (.iadd, 1) := by decide +kernel
theorem dX7_step_17 : decode cX7_step 17 = .ok (.iload_n 1, 1) := by decide +kernel
theorem dX7_step_18 : decode cX7_step 18 = .ok (.iastore, 1) := by decide +kernel
theorem dX7_step_19 : decode cX7_step 19 = .ok (.aload_n 0, 1) := by decide +kernel
theorem dX7_step_20 : decode cX7_step 20 = .ok (.getfield 260, 3) := by decide +kernel
theorem dX7_step_23 : decode cX7_step 23 = .ok (.sipush 600, 3) := by decide +kernel
theorem dX7_step_26 : decode cX7_step 26 = .ok (.aload_n 0, 1) := by decide +kernel
theorem dX7_step_27 : decode cX7_step 27 = .ok (.getfield 211, 3) := by decide +kernel
theorem dX7_step_30 : decode cX7_step 30 = .ok (.imul, 1) := by decide +kernel
theorem dX7_step_31 : decode cX7_step 31 = .ok (.aload_n 0, 1) := by decide +kernel
theorem dX7_step_32 : decode cX7_step 32 = .ok (.getfield 214, 3) := by decide +kernel
theorem dX7_step_35 : decode cX7_step 35 = .ok (.iadd, 1) := by decide +kernel
theorem dX7_step_36 : decode cX7_step 36 = .ok (.iload_n 2, 1) := by decide +kernel
theorem dX7_step_37 : decode cX7_step 37 = .ok (.iastore, 1) := by decide +kernel
theorem dX7_step_38 : decode cX7_step 38 = .ok (.aload_n 0, 1) := by decide +kernel
theorem dX7_step_39 : decode cX7_step 39 = .ok (.dup, 1) := by decide +kernel
theorem dX7_step_40 : decode cX7_step 40 = .ok (.getfield 214, 3) := by decide +kernel
theorem dX7_step_43 : decode cX7_step 43 = .ok (.iconst 1, 1) := by decide +kernel
theorem dX7_step_44 : decode cX7_step 44 = .ok (.iadd, 1) := by decide +kernel
theorem dX7_step_45 : decode cX7_step 45 = .ok (.putfield 214, 3) := by decide +kernel
theorem dX7_step_48 : decode cX7_step 48 = .ok (.return_, 1) := by decide +kernel
theorem dX7_pile_0 : decode cX7_pile 0 = .ok (.aload_n 0, 1) := by decide +kernel
theorem dX7_pile_1 : decode cX7_pile 1 = .ok (.getfield 263, 3) := by decide +kernel
theorem dX7_pile_4 : decode cX7_pile 4 = .ok (.aload_n 0, 1) := by decide +kernel
theorem dX7_pile_5 : decode cX7_pile 5 = .ok (.getfield 266, 3) := by decide +kernel
theorem dX7_pile_8 : decode cX7_pile 8 = .ok (.iload_n 1, 1) := by decide +kernel
theorem dX7_pile_9 : decode cX7_pile 9 = .ok (.iastore, 1) := by decide +kernel
theorem dX7_pile_10 : decode cX7_pile 10 = .ok (.aload_n 0, 1) := by decide +kernel
theorem dX7_pile_11 : decode cX7_pile 11 = .ok (.dup, 1) := by decide +kernel
theorem dX7_pile_12 : decode cX7_pile 12 = .ok (.getfield 266, 3) := by decide +kernel
theorem dX7_pile_15 : decode cX7_pile 15 = .ok (.iconst 1, 1) := by decide +kernel
theorem dX7_pile_16 : decode cX7_pile 16 = .ok (.iadd, 1) := by decide +kernel
theorem dX7_pile_17 : decode cX7_pile 17 = .ok (.putfield 266, 3) := by decide +kernel
theorem dX7_pile_20 : decode cX7_pile 20 = .ok (.return_, 1) := by decide +kernel
theorem dX7_e_0 : decode cX7_e 0 = .ok (.aload_n 0, 1) := by decide +kernel
theorem dX7_e_1 : decode cX7_e 1 = .ok (.iconst 0, 1) := by decide +kernel
theorem dX7_e_2 : decode cX7_e 2 = .ok (.putfield 266, 3) := by decide +kernel
theorem dX7_e_5 : decode cX7_e 5 = .ok (.aload_n 0, 1) := by decide +kernel
theorem dX7_e_6 : decode cX7_e 6 = .ok (.iconst 0, 1) := by decide +kernel
theorem dX7_e_7 : decode cX7_e 7 = .ok (.putfield 269, 3) := by decide +kernel
theorem dX7_e_10 : decode cX7_e 10 = .ok (.aload_n 0, 1) := by decide +kernel
theorem dX7_e_11 : decode cX7_e 11 = .ok (.iconst 5, 1) := by decide +kernel
theorem dX7_e_12 : decode cX7_e 12 = .ok (.invokevirtual 272, 3) := by decide +kernel
theorem dX7_e_15 : decode cX7_e 15 = .ok (.iconst 1, 1) := by decide +kernel
theorem dX7_e_16 : decode cX7_e 16 = .ok (.istore_n 2, 1) := by decide +kernel
theorem dX7_e_17 : decode cX7_e 17 = .ok (.aload_n 0, 1) := by decide +kernel
theorem dX7_e_18 : decode cX7_e 18 = .ok (.invokevirtual 81, 3) := by decide +kernel
theorem dX7_e_21 : decode cX7_e 21 = .ok (.ifCond .eq 30, 3) := by decide +kernel
theorem dX7_e_24 : decode cX7_e 24 = .ok (.aload_n 0, 1) := by decide +kernel
theorem dX7_e_25 : decode cX7_e 25 = .ok (.getfield 266, 3) := by decide +kernel
theorem dX7_e_28 : decode cX7_e 28 = .ok (.ifCond .le 23, 3) := by decide +kernel
theorem dX7_e_31 : decode cX7_e 31 = .ok (.iload_n 2, 1) := by decide +kernel
theorem dX7_e_32 : decode cX7_e 32 = .ok (.ifCond .eq 11, 3) := by decide +kernel
theorem dX7_e_35 : decode cX7_e 35 = .ok (.aload_n 0, 1) := by decide +kernel
theorem dX7_e_36 : decode cX7_e 36 = .ok (.iload_n 1, 1) := by decide +kernel
theorem dX7_e_37 : decode cX7_e 37 = .ok (.invokevirtual 275, 3) := by decide +kernel
theorem dX7_e_40 : decode cX7_e 40 = .ok (.goto 7, 3) := by decide +kernel
theorem dX7_e_43 : decode cX7_e 43 = .ok (.aload_n 0, 1) := by decide +kernel
theorem dX7_e_44 : decode cX7_e 44 = .ok (.invokevirtual 278, 3) := by decide +kernel
theorem dX7_e_47 : decode cX7_e 47 = .ok (.istore_n 2, 1) := by decide +kernel
theorem dX7_e_48 : decode cX7_e 48 = .ok (.goto (-31), 3) := by decide +kernel
theorem dX7_e_51 : decode cX7_e 51 = .ok (.return_, 1) := by decide +kernel
theorem dX7_one_0 : decode cX7_one 0 = .ok (.aload_n 0, 1) := by decide +kernel
theorem dX7_one_1 : decode cX7_one 1 = .ok (.bipush 40, 2) := by decide +kernel
theorem dX7_one_3 : decode cX7_one 3 = .ok (.invokevirtual 163, 3) := by decide +kernel
theorem dX7_one_6 : decode cX7_one 6 = .ok (.ifCond .ne 13, 3) := by decide +kernel
theorem dX7_one_9 : decode cX7_one 9 = .ok (.aload_n 0, 1) := by decide +kernel
theorem dX7_one_10 : decode cX7_one 10 = .ok (.ldc2_w 33, 3) := by decide +kernel
theorem dX7_one_13 : decode cX7_one 13 = .ok (.invokevirtual 125, 3) := by decide +kernel
theorem dX7_one_16 : decode cX7_one 16 = .ok (.ifCond .eq 50, 3) := by decide +kernel
theorem dX7_one_19 : decode cX7_one 19 = .ok (.aload_n 0, 1) := by decide +kernel
theorem dX7_one_20 : decode cX7_one 20 = .ok (.aload_n 0, 1) := by decide +kernel
theorem dX7_one_21 : decode cX7_one 21 = .ok (.bipush 40, 2) := by decide +kernel
theorem dX7_one_23 : decode cX7_one 23 = .ok (.invokevirtual 163, 3) := by decide +kernel
theorem dX7_one_26 : decode cX7_one 26 = .ok (.ifCond .eq 7, 3) := by decide +kernel
theorem dX7_one_29 : decode cX7_one 29 = .ok (.iconst 4, 1) := by decide +kernel
theorem dX7_one_30 : decode cX7_one 30 = .ok (.goto 4, 3) := by decide +kernel
theorem dX7_one_33 : decode cX7_one 33 = .ok (.iconst 3, 1) := by decide +kernel
theorem dX7_one_34 : decode cX7_one 34 = .ok (.invokevirtual 272, 3) := by decide +kernel
theorem dX7_one_37 : decode cX7_one 37 = .ok (.aload_n 0, 1) := by decide +kernel
theorem dX7_one_38 : decode cX7_one 38 = .ok (.invokevirtual 85, 3) := by decide +kernel
theorem dX7_one_41 : decode cX7_one 41 = .ok (.aload_n 0, 1) := by decide +kernel
theorem dX7_one_42 : decode cX7_one 42 = .ok (.dup, 1) := by decide +kernel
theorem dX7_one_43 : decode cX7_one 43 = .ok (.getfield 269, 3) := by decide +kernel
theorem dX7_one_46 : decode cX7_one 46 = .ok (.iconst 1, 1) := by decide +kernel
theorem dX7_one_47 : decode cX7_one 47 = .ok (.iadd, 1) := by decide +kernel
theorem dX7_one_48 : decode cX7_one 48 = .ok (.putfield 269, 3) := by decide +kernel
theorem dX7_one_51 : decode cX7_one 51 = .ok (.aload_n 0, 1) := by decide +kernel
theorem dX7_one_52 : decode cX7_one 52 = .ok (.getfield 269, 3) := by decide +kernel
theorem dX7_one_55 : decode cX7_one 55 = .ok (.bipush 6, 2) := by decide +kernel
theorem dX7_one_57 : decode cX7_one 57 = .ok (.if_icmp .lt 7, 3) := by decide +kernel
theorem dX7_one_60 : decode cX7_one 60 = .ok (.aload_n 0, 1) := by decide +kernel
theorem dX7_one_61 : decode cX7_one 61 = .ok (.invokevirtual 89, 3) := by decide +kernel
theorem dX7_one_64 : decode cX7_one 64 = .ok (.iconst 1, 1) := by decide +kernel
theorem dX7_one_65 : decode cX7_one 65 = .ok (.ireturn, 1) := by decide +kernel
theorem dX7_one_66 : decode cX7_one 66 = .ok (.aload_n 0, 1) := by decide +kernel
theorem dX7_one_67 : decode cX7_one 67 = .ok (.aload_n 0, 1) := by decide +kernel
theorem dX7_one_68 : decode cX7_one 68 = .ok (.getfield 229, 3) := by decide +kernel
theorem dX7_one_71 : decode cX7_one 71 = .ok (.iload_n 1, 1) := by decide +kernel
theorem dX7_one_72 : decode cX7_one 72 = .ok (.iaload, 1) := by decide +kernel
theorem dX7_one_73 : decode cX7_one 73 = .ok (.invokevirtual 281, 3) := by decide +kernel
theorem dX7_one_76 : decode cX7_one 76 = .ok (.aload_n 0, 1) := by decide +kernel
theorem dX7_one_77 : decode cX7_one 77 = .ok (.invokevirtual 81, 3) := by decide +kernel
theorem dX7_one_80 : decode cX7_one 80 = .ok (.ifCond .eq 34, 3) := by decide +kernel
theorem dX7_one_83 : decode cX7_one 83 = .ok (.aload_n 0, 1) := by decide +kernel
theorem dX7_one_84 : decode cX7_one 84 = .ok (.bipush 60, 2) := by decide +kernel
theorem dX7_one_86 : decode cX7_one 86 = .ok (.invokevirtual 163, 3) := by decide +kernel
theorem dX7_one_89 : decode cX7_one 89 = .ok (.ifCond .ne 25, 3) := by decide +kernel
theorem dX7_one_92 : decode cX7_one 92 = .ok (.aload_n 0, 1) := by decide +kernel
theorem dX7_one_93 : decode cX7_one 93 = .ok (.bipush 62, 2) := by decide +kernel
theorem dX7_one_95 : decode cX7_one 95 = .ok (.invokevirtual 163, 3) := by decide +kernel
theorem dX7_one_98 : decode cX7_one 98 = .ok (.ifCond .ne 16, 3) := by decide +kernel
theorem dX7_one_101 : decode cX7_one 101 = .ok (.aload_n 0, 1) := by decide +kernel
theorem dX7_one_102 : decode cX7_one 102 = .ok (.bipush 61, 2) := by decide +kernel
theorem dX7_one_104 : decode cX7_one 104 = .ok (.invokevirtual 163, 3) := by decide +kernel
theorem dX7_one_107 : decode cX7_one 107 = .ok (.ifCond .ne 7, 3) := by decide +kernel
theorem dX7_one_110 : decode cX7_one 110 = .ok (.aload_n 0, 1) := by decide +kernel
theorem dX7_one_111 : decode cX7_one 111 = .ok (.invokevirtual 89, 3) := by decide +kernel
theorem dX7_one_114 : decode cX7_one 114 = .ok (.aload_n 0, 1) := by decide +kernel
theorem dX7_one_115 : decode cX7_one 115 = .ok (.invokevirtual 81, 3) := by decide +kernel
theorem dX7_one_118 : decode cX7_one 118 = .ok (.ifCond .ne 5, 3) := by decide +kernel
theorem dX7_one_121 : decode cX7_one 121 = .ok (.iconst 1, 1) := by decide +kernel
theorem dX7_one_122 : decode cX7_one 122 = .ok (.ireturn, 1) := by decide +kernel
theorem dX7_one_123 : decode cX7_one 123 = .ok (.aload_n 0, 1) := by decide +kernel
theorem dX7_one_124 : decode cX7_one 124 = .ok (.aload_n 0, 1) := by decide +kernel
theorem dX7_one_125 : decode cX7_one 125 = .ok (.getfield 46, 3) := by decide +kernel
theorem dX7_one_128 : decode cX7_one 128 = .ok (.invokevirtual 49, 3) := by decide +kernel
theorem dX7_one_131 : decode cX7_one 131 = .ok (.istore_n 2, 1) := by decide +kernel
theorem dX7_one_132 : decode cX7_one 132 = .ok (.aload_n 0, 1) := by decide +kernel
theorem dX7_one_133 : decode cX7_one 133 = .ok (.invokevirtual 85, 3) := by decide +kernel
theorem dX7_one_136 : decode cX7_one 136 = .ok (.aload_n 0, 1) := by decide +kernel
theorem dX7_one_137 : decode cX7_one 137 = .ok (.getfield 53, 3) := by decide +kernel
theorem dX7_one_140 : decode cX7_one 140 = .ok (.iconst 4, 1) := by decide +kernel
theorem dX7_one_141 : decode cX7_one 141 = .ok (.if_icmp .eq 16, 3) := by decide +kernel
theorem dX7_one_144 : decode cX7_one 144 = .ok (.aload_n 0, 1) := by decide +kernel
theorem dX7_one_145 : decode cX7_one 145 = .ok (.bipush 45, 2) := by decide +kernel
theorem dX7_one_147 : decode cX7_one 147 = .ok (.invokevirtual 163, 3) := by decide +kernel
theorem dX7_one_150 : decode cX7_one 150 = .ok (.ifCond .ne 7, 3) := by decide +kernel
theorem dX7_one_153 : decode cX7_one 153 = .ok (.aload_n 0, 1) := by decide +kernel
theorem dX7_one_154 : decode cX7_one 154 = .ok (.invokevirtual 89, 3) := by decide +kernel
theorem dX7_one_157 : decode cX7_one 157 = .ok (.aload_n 0, 1) := by decide +kernel
theorem dX7_one_158 : decode cX7_one 158 = .ok (.invokevirtual 81, 3) := by decide +kernel
theorem dX7_one_161 : decode cX7_one 161 = .ok (.ifCond .ne 5, 3) := by decide +kernel
theorem dX7_one_164 : decode cX7_one 164 = .ok (.iconst 1, 1) := by decide +kernel
theorem dX7_one_165 : decode cX7_one 165 = .ok (.ireturn, 1) := by decide +kernel
theorem dX7_one_166 : decode cX7_one 166 = .ok (.aload_n 0, 1) := by decide +kernel
theorem dX7_one_167 : decode cX7_one 167 = .ok (.bipush 112, 2) := by decide +kernel
theorem dX7_one_169 : decode cX7_one 169 = .ok (.bipush 40, 2) := by decide +kernel
theorem dX7_one_171 : decode cX7_one 171 = .ok (.aload_n 0, 1) := by decide +kernel
theorem dX7_one_172 : decode cX7_one 172 = .ok (.getfield 211, 3) := by decide +kernel
theorem dX7_one_175 : decode cX7_one 175 = .ok (.imul, 1) := by decide +kernel
theorem dX7_one_176 : decode cX7_one 176 = .ok (.aload_n 0, 1) := by decide +kernel
theorem dX7_one_177 : decode cX7_one 177 = .ok (.getfield 217, 3) := by decide +kernel
theorem dX7_one_180 : decode cX7_one 180 = .ok (.iadd, 1) := by decide +kernel
theorem dX7_one_181 : decode cX7_one 181 = .ok (.iconst 1, 1) := by decide +kernel
theorem dX7_one_182 : decode cX7_one 182 = .ok (.isub, 1) := by decide +kernel
theorem dX7_one_183 : decode cX7_one 183 = .ok (.invokevirtual 284, 3) := by decide +kernel
theorem dX7_one_186 : decode cX7_one 186 = .ok (.aload_n 0, 1) := by decide +kernel
theorem dX7_one_187 : decode cX7_one 187 = .ok (.iload_n 2, 1) := by decide +kernel
theorem dX7_one_188 : decode cX7_one 188 = .ok (.aload_n 0, 1) := by decide +kernel
theorem dX7_one_189 : decode cX7_one 189 = .ok (.bipush 45, 2) := by decide +kernel
theorem dX7_one_191 : decode cX7_one 191 = .ok (.invokevirtual 163, 3) := by decide +kernel
theorem dX7_one_194 : decode cX7_one 194 = .ok (.ifCond .eq 7, 3) := by decide +kernel
theorem dX7_one_197 : decode cX7_one 197 = .ok (.iconst (-1), 1) := by decide +kernel
theorem dX7_one_198 : decode cX7_one 198 = .ok (.goto 7, 3) := by decide +kernel
theorem dX7_one_201 : decode cX7_one 201 = .ok (.aload_n 0, 1) := by decide +kernel
theorem dX7_one_202 : decode cX7_one 202 = .ok (.getfield 71, 3) := by decide +kernel
theorem dX7_one_205 : decode cX7_one 205 = .ok (.invokevirtual 284, 3) := by decide +kernel
theorem dX7_one_208 : decode cX7_one 208 = .ok (.aload_n 0, 1) := by decide +kernel
theorem dX7_one_209 : decode cX7_one 209 = .ok (.invokevirtual 85, 3) := by decide +kernel
theorem dX7_one_212 : decode cX7_one 212 = .ok (.iconst 0, 1) := by decide +kernel
theorem dX7_one_213 : decode cX7_one 213 = .ok (.ireturn, 1) := by decide +kernel
theorem dX7_readPath_0 : decode cX7_readPath 0 = .ok (.aload_n 0, 1) := by decide +kernel
theorem dX7_readPath_1 : decode cX7_readPath 1 = .ok (.getfield 53, 3) := by decide +kernel
theorem dX7_readPath_4 : decode cX7_readPath 4 = .ok (.iconst 2, 1) := by decide +kernel
theorem dX7_readPath_5 : decode cX7_readPath 5 = .ok (.if_icmp .ne 12, 3) := by decide +kernel
