theorem dX0_init_0 : decode cX0_init 0 = .ok (.aload_n 0, 1) := by decide +kernel
theorem dX0_init_1 : decode cX0_init 1 = .ok (.invokespecial 3, 3) := by decide +kernel
theorem dX0_init_4 : decode cX0_init 4 = .ok (.aload_n 0, 1) := by decide +kernel
theorem dX0_init_5 : decode cX0_init 5 = .ok (.aload_n 1, 1) := by decide +kernel
theorem dX0_init_6 : decode cX0_init 6 = .ok (.putfield 9, 3) := by decide +kernel
theorem dX0_init_9 : decode cX0_init 9 = .ok (.aload_n 0, 1) := by decide +kernel
theorem dX0_init_10 : decode cX0_init 10 = .ok (.aload_n 2, 1) := by decide +kernel
theorem dX0_init_11 : decode cX0_init 11 = .ok (.putfield 15, 3) := by decide +kernel
theorem dX0_init_14 : decode cX0_init 14 = .ok (.aload_n 0, 1) := by decide +kernel
theorem dX0_init_15 : decode cX0_init 15 = .ok (.iload_n 3, 1) := by decide +kernel
theorem dX0_init_16 : decode cX0_init 16 = .ok (.putfield 19, 3) := by decide +kernel
theorem dX0_init_19 : decode cX0_init 19 = .ok (.aload_n 0, 1) := by decide +kernel
theorem dX0_init_20 : decode cX0_init 20 = .ok (.iload 4, 2) := by decide +kernel
theorem dX0_init_22 : decode cX0_init 22 = .ok (.iload_n 3, 1) := by decide +kernel
theorem dX0_init_23 : decode cX0_init 23 = .ok (.iconst (-1), 1) := by decide +kernel
theorem dX0_init_24 : decode cX0_init 24 = .ok (.ixor, 1) := by decide +kernel
theorem dX0_init_25 : decode cX0_init 25 = .ok (.iand, 1) := by decide +kernel
theorem dX0_init_26 : decode cX0_init 26 = .ok (.putfield 23, 3) := by decide +kernel
theorem dX0_init_29 : decode cX0_init 29 = .ok (.return_, 1) := by decide +kernel
theorem dX0_isPiece_0 : decode cX0_isPiece 0 = .ok (.iload_n 1, 1) := by decide +kernel
theorem dX0_isPiece_1 : decode cX0_isPiece 1 = .ok (.aload_n 0, 1) := by decide +kernel
theorem dX0_isPiece_2 : decode cX0_isPiece 2 = .ok (.getfield 19, 3) := by decide +kernel
theorem dX0_isPiece_5 : decode cX0_isPiece 5 = .ok (.iand, 1) := by decide +kernel
theorem dX0_isPiece_6 : decode cX0_isPiece 6 = .ok (.ifCond .eq 5, 3) := by decide +kernel
theorem dX0_isPiece_9 : decode cX0_isPiece 9 = .ok (.iconst 0, 1) := by decide +kernel
theorem dX0_isPiece_10 : decode cX0_isPiece 10 = .ok (.ireturn, 1) := by decide +kernel
theorem dX0_isPiece_11 : decode cX0_isPiece 11 = .ok (.iconst 0, 1) := by decide +kernel
theorem dX0_isPiece_12 : decode cX0_isPiece 12 = .ok (.istore_n 2, 1) := by decide +kernel
theorem dX0_isPiece_13 : decode cX0_isPiece 13 = .ok (.iload_n 2, 1) := by decide +kernel
theorem dX0_isPiece_14 : decode cX0_isPiece 14 = .ok (.aload_n 0, 1) := by decide +kernel
theorem dX0_isPiece_15 : decode cX0_isPiece 15 = .ok (.getfield 9, 3) := by decide +kernel
theorem dX0_isPiece_18 : decode cX0_isPiece 18 = .ok (.getfield 26, 3) := by decide +kernel
theorem dX0_isPiece_21 : decode cX0_isPiece 21 = .ok (.if_icmp .ge 35, 3) := by decide +kernel
theorem dX0_isPiece_24 : decode cX0_isPiece 24 = .ok (.iload_n 1, 1) := by decide +kernel
theorem dX0_isPiece_25 : decode cX0_isPiece 25 = .ok (.iload_n 2, 1) := by decide +kernel
theorem dX0_isPiece_26 : decode cX0_isPiece 26 = .ok (.invokestatic 31, 3) := by decide +kernel
theorem dX0_isPiece_29 : decode cX0_isPiece 29 = .ok (.ifCond .eq 21, 3) := by decide +kernel
theorem dX0_isPiece_32 : decode cX0_isPiece 32 = .ok (.aload_n 0, 1) := by decide +kernel
theorem dX0_isPiece_33 : decode cX0_isPiece 33 = .ok (.getfield 9, 3) := by decide +kernel
theorem dX0_isPiece_36 : decode cX0_isPiece 36 = .ok (.getfield 35, 3) := by decide +kernel
theorem dX0_isPiece_39 : decode cX0_isPiece 39 = .ok (.iload_n 2, 1) := by decide +kernel
theorem dX0_isPiece_40 : decode cX0_isPiece 40 = .ok (.iaload, 1) := by decide +kernel
theorem dX0_isPiece_41 : decode cX0_isPiece 41 = .ok (.iload_n 1, 1) := by decide +kernel
theorem dX0_isPiece_42 : decode cX0_isPiece 42 = .ok (.iconst (-1), 1) := by decide +kernel
theorem dX0_isPiece_43 : decode cX0_isPiece 43 = .ok (.ixor, 1) := by decide +kernel
theorem dX0_isPiece_44 : decode cX0_isPiece 44 = .ok (.iand, 1) := by decide +kernel
theorem dX0_isPiece_45 : decode cX0_isPiece 45 = .ok (.ifCond .eq 5, 3) := by decide +kernel
theorem dX0_isPiece_48 : decode cX0_isPiece 48 = .ok (.iconst 0, 1) := by decide +kernel
theorem dX0_isPiece_49 : decode cX0_isPiece 49 = .ok (.ireturn, 1) := by decide +kernel
theorem dX0_isPiece_50 : decode cX0_isPiece 50 = .ok (.iinc 2 1, 3) := by decide +kernel
theorem dX0_isPiece_53 : decode cX0_isPiece 53 = .ok (.goto (-40), 3) := by decide +kernel
theorem dX0_isPiece_56 : decode cX0_isPiece 56 = .ok (.iconst 0, 1) := by decide +kernel
theorem dX0_isPiece_57 : decode cX0_isPiece 57 = .ok (.istore_n 2, 1) := by decide +kernel
theorem dX0_isPiece_58 : decode cX0_isPiece 58 = .ok (.iload_n 2, 1) := by decide +kernel
theorem dX0_isPiece_59 : decode cX0_isPiece 59 = .ok (.aload_n 0, 1) := by decide +kernel
theorem dX0_isPiece_60 : decode cX0_isPiece 60 = .ok (.getfield 15, 3) := by decide +kernel
theorem dX0_isPiece_63 : decode cX0_isPiece 63 = .ok (.getfield 39, 3) := by decide +kernel
theorem dX0_isPiece_66 : decode cX0_isPiece 66 = .ok (.if_icmp .ge 51, 3) := by decide +kernel
theorem dX0_isPiece_69 : decode cX0_isPiece 69 = .ok (.aload_n 0, 1) := by decide +kernel
theorem dX0_isPiece_70 : decode cX0_isPiece 70 = .ok (.getfield 15, 3) := by decide +kernel
theorem dX0_isPiece_73 : decode cX0_isPiece 73 = .ok (.getfield 44, 3) := by decide +kernel
theorem dX0_isPiece_76 : decode cX0_isPiece 76 = .ok (.iload_n 2, 1) := by decide +kernel
theorem dX0_isPiece_77 : decode cX0_isPiece 77 = .ok (.iaload, 1) := by decide +kernel
theorem dX0_isPiece_78 : decode cX0_isPiece 78 = .ok (.iload_n 1, 1) := by decide +kernel
theorem dX0_isPiece_79 : decode cX0_isPiece 79 = .ok (.iand, 1) := by decide +kernel
theorem dX0_isPiece_80 : decode cX0_isPiece 80 = .ok (.invokestatic 47, 3) := by decide +kernel
theorem dX0_isPiece_83 : decode cX0_isPiece 83 = .ok (.istore_n 3, 1) := by decide +kernel
theorem dX0_isPiece_84 : decode cX0_isPiece 84 = .ok (.aload_n 0, 1) := by decide +kernel
theorem dX0_isPiece_85 : decode cX0_isPiece 85 = .ok (.getfield 15, 3) := by decide +kernel
theorem dX0_isPiece_88 : decode cX0_isPiece 88 = .ok (.iload_n 2, 1) := by decide +kernel
theorem dX0_isPiece_89 : decode cX0_isPiece 89 = .ok (.iload_n 1, 1) := by decide +kernel
theorem dX0_isPiece_90 : decode cX0_isPiece 90 = .ok (.invokevirtual 53, 3) := by decide +kernel
theorem dX0_isPiece_93 : decode cX0_isPiece 93 = .ok (.ifCond .eq 18, 3) := by decide +kernel
theorem dX0_isPiece_96 : decode cX0_isPiece 96 = .ok (.iload_n 3, 1) := by decide +kernel
theorem dX0_isPiece_97 : decode cX0_isPiece 97 = .ok (.aload_n 0, 1) := by decide +kernel
theorem dX0_isPiece_98 : decode cX0_isPiece 98 = .ok (.getfield 15, 3) := by decide +kernel
theorem dX0_isPiece_101 : decode cX0_isPiece 101 = .ok (.getfield 56, 3) := by decide +kernel
theorem dX0_isPiece_104 : decode cX0_isPiece 104 = .ok (.iload_n 2, 1) := by decide +kernel
theorem dX0_isPiece_105 : decode cX0_isPiece 105 = .ok (.iaload, 1) := by decide +kernel
theorem dX0_isPiece_106 : decode cX0_isPiece 106 = .ok (.if_icmp .ge 5, 3) := by decide +kernel
theorem dX0_isPiece_109 : decode cX0_isPiece 109 = .ok (.iconst 0, 1) := by decide +kernel
theorem dX0_isPiece_110 : decode cX0_isPiece 110 = .ok (.ireturn, 1) := by decide +kernel
theorem dX0_isPiece_111 : decode cX0_isPiece 111 = .ok (.iinc 2 1, 3) := by decide +kernel
theorem dX0_isPiece_114 : decode cX0_isPiece 114 = .ok (.goto (-56), 3) := by decide +kernel
theorem dX0_isPiece_117 : decode cX0_isPiece 117 = .ok (.iconst 1, 1) := by decide +kernel
theorem dX0_isPiece_118 : decode cX0_isPiece 118 = .ok (.ireturn, 1) := by decide +kernel
theorem dX0_cut_0 : decode cX0_cut 0 = .ok (.aload_n 0, 1) := by decide +kernel
theorem dX0_cut_1 : decode cX0_cut 1 = .ok (.aload_n 0, 1) := by decide +kernel
theorem dX0_cut_2 : decode cX0_cut 2 = .ok (.getfield 9, 3) := by decide +kernel
theorem dX0_cut_5 : decode cX0_cut 5 = .ok (.invokevirtual 59, 3) := by decide +kernel
theorem dX0_cut_8 : decode cX0_cut 8 = .ok (.aload_n 0, 1) := by decide +kernel
theorem dX0_cut_9 : decode cX0_cut 9 = .ok (.getfield 19, 3) := by decide +kernel
theorem dX0_cut_12 : decode cX0_cut 12 = .ok (.iconst (-1), 1) := by decide +kernel
theorem dX0_cut_13 : decode cX0_cut 13 = .ok (.ixor, 1) := by decide +kernel
theorem dX0_cut_14 : decode cX0_cut 14 = .ok (.iand, 1) := by decide +kernel
theorem dX0_cut_15 : decode cX0_cut 15 = .ok (.invokevirtual 63, 3) := by decide +kernel
theorem dX0_cut_18 : decode cX0_cut 18 = .ok (.ifCond .ne 5, 3) := by decide +kernel
theorem dX0_cut_21 : decode cX0_cut 21 = .ok (.iconst (-1), 1) := by decide +kernel
theorem dX0_cut_22 : decode cX0_cut 22 = .ok (.ireturn, 1) := by decide +kernel
theorem dX0_cut_23 : decode cX0_cut 23 = .ok (.iconst (-1), 1) := by decide +kernel
theorem dX0_cut_24 : decode cX0_cut 24 = .ok (.istore_n 1, 1) := by decide +kernel
theorem dX0_cut_25 : decode cX0_cut 25 = .ok (.aload_n 0, 1) := by decide +kernel
theorem dX0_cut_26 : decode cX0_cut 26 = .ok (.aload_n 0, 1) := by decide +kernel
theorem dX0_cut_27 : decode cX0_cut 27 = .ok (.getfield 9, 3) := by decide +kernel
theorem dX0_cut_30 : decode cX0_cut 30 = .ok (.getfield 26, 3) := by decide +kernel
theorem dX0_cut_33 : decode cX0_cut 33 = .ok (.putfield 67, 3) := by decide +kernel
theorem dX0_cut_36 : decode cX0_cut 36 = .ok (.iconst 0, 1) := by decide +kernel
theorem dX0_cut_37 : decode cX0_cut 37 = .ok (.istore_n 2, 1) := by decide +kernel
theorem dX0_cut_38 : decode cX0_cut 38 = .ok (.iload_n 2, 1) := by decide +kernel
theorem dX0_cut_39 : decode cX0_cut 39 = .ok (.aload_n 0, 1) := by decide +kernel
theorem dX0_cut_40 : decode cX0_cut 40 = .ok (.getfield 9, 3) := by decide +kernel
theorem dX0_cut_43 : decode cX0_cut 43 = .ok (.getfield 26, 3) := by decide +kernel
theorem dX0_cut_46 : decode cX0_cut 46 = .ok (.if_icmp .gt 30, 3) := by decide +kernel
theorem dX0_cut_49 : decode cX0_cut 49 = .ok (.iload_n 1, 1) := by decide +kernel
theorem dX0_cut_50 : decode cX0_cut 50 = .ok (.iconst (-1), 1) := by decide +kernel
theorem dX0_cut_51 : decode cX0_cut 51 = .ok (.if_icmp .ne 25, 3) := by decide +kernel
theorem dX0_cut_54 : decode cX0_cut 54 = .ok (.aload_n 0, 1) := by decide +kernel
theorem dX0_cut_55 : decode cX0_cut 55 = .ok (.iload_n 2, 1) := by decide +kernel
theorem dX0_cut_56 : decode cX0_cut 56 = .ok (.putfield 70, 3) := by decide +kernel
theorem dX0_cut_59 : decode cX0_cut 59 = .ok (.aload_n 0, 1) := by decide +kernel
theorem dX0_cut_60 : decode cX0_cut 60 = .ok (.iconst 0, 1) := by decide +kernel
theorem dX0_cut_61 : decode cX0_cut 61 = .ok (.iconst 0, 1) := by decide +kernel
theorem dX0_cut_62 : decode cX0_cut 62 = .ok (.aload_n 0, 1) := by decide +kernel
theorem dX0_cut_63 : decode cX0_cut 63 = .ok (.getfield 19, 3) := by decide +kernel
theorem dX0_cut_66 : decode cX0_cut 66 = .ok (.invokevirtual 73, 3) := by decide +kernel
theorem dX0_cut_69 : decode cX0_cut 69 = .ok (.istore_n 1, 1) := by decide +kernel
theorem dX0_cut_70 : decode cX0_cut 70 = .ok (.iinc 2 1, 3) := by decide +kernel
theorem dX0_cut_73 : decode cX0_cut 73 = .ok (.goto (-35), 3) := by decide +kernel
theorem dX0_cut_76 : decode cX0_cut 76 = .ok (.aload_n 0, 1) := by decide +kernel
theorem dX0_cut_77 : decode cX0_cut 77 = .ok (.getfield 23, 3) := by decide +kernel
theorem dX0_cut_80 : decode cX0_cut 80 = .ok (.ifCond .ne 7, 3) := by decide +kernel
theorem dX0_cut_83 : decode cX0_cut 83 = .ok (.iconst (-1), 1) := by decide +kernel
theorem dX0_cut_84 : decode cX0_cut 84 = .ok (.goto 9, 3) := by decide +kernel
theorem dX0_cut_87 : decode cX0_cut 87 = .ok (.iload_n 1, 1) := by decide +kernel
theorem dX0_cut_88 : decode cX0_cut 88 = .ok (.invokestatic 47, 3) := by decide +kernel
theorem dX0_cut_91 : decode cX0_cut 91 = .ok (.iconst 1, 1) := by decide +kernel
theorem dX0_cut_92 : decode cX0_cut 92 = .ok (.isub, 1) := by decide +kernel
theorem dX0_cut_93 : decode cX0_cut 93 = .ok (.istore_n 2, 1) := by decide +kernel
theorem dX0_cut_94 : decode cX0_cut 94 = .ok (.iconst (-1), 1) := by decide +kernel
theorem dX0_cut_95 : decode cX0_cut 95 = .ok (.istore_n 3, 1) := by decide +kernel
theorem dX0_cut_96 : decode cX0_cut 96 = .ok (.iconst 0, 1) := by decide +kernel
theorem dX0_cut_97 : decode cX0_cut 97 = .ok (.istore 4, 2) := by decide +kernel
theorem dX0_cut_99 : decode cX0_cut 99 = .ok (.iload 4, 2) := by decide +kernel
theorem dX0_cut_101 : decode cX0_cut 101 = .ok (.iload_n 2, 1) := by decide +kernel
theorem dX0_cut_102 : decode cX0_cut 102 = .ok (.if_icmp .gt 31, 3) := by decide +kernel
theorem dX0_cut_105 : decode cX0_cut 105 = .ok (.iload_n 3, 1) := by decide +kernel
theorem dX0_cut_106 : decode cX0_cut 106 = .ok (.iconst (-1), 1) := by decide +kernel
theorem dX0_cut_107 : decode cX0_cut 107 = .ok (.if_icmp .ne 26, 3) := by decide +kernel
theorem dX0_cut_110 : decode cX0_cut 110 = .ok (.aload_n 0, 1) := by decide +kernel
theorem dX0_cut_111 : decode cX0_cut 111 = .ok (.iload 4, 2) := by decide +kernel
theorem dX0_cut_113 : decode cX0_cut 113 = .ok (.putfield 67, 3) := by decide +kernel
theorem dX0_cut_116 : decode cX0_cut 116 = .ok (.aload_n 0, 1) := by decide +kernel
theorem dX0_cut_117 : decode cX0_cut 117 = .ok (.iconst 0, 1) := by decide +kernel
theorem dX0_cut_118 : decode cX0_cut 118 = .ok (.iconst 0, 1) := by decide +kernel
theorem dX0_cut_119 : decode cX0_cut 119 = .ok (.aload_n 0, 1) := by decide +kernel
theorem dX0_cut_120 : decode cX0_cut 120 = .ok (.getfield 19, 3) := by decide +kernel
theorem dX0_cut_123 : decode cX0_cut 123 = .ok (.invokevirtual 73, 3) := by decide +kernel
theorem dX0_cut_126 : decode cX0_cut 126 = .ok (.istore_n 3, 1) := by decide +kernel
theorem dX0_cut_127 : decode cX0_cut 127 = .ok (.iinc 4 1, 3) := by decide +kernel
theorem dX0_cut_130 : decode cX0_cut 130 = .ok (.goto (-31), 3) := by decide +kernel
theorem dX0_cut_133 : decode cX0_cut 133 = .ok (.iload_n 3, 1) := by decide +kernel
theorem dX0_cut_134 : decode cX0_cut 134 = .ok (.iconst (-1), 1) := by decide +kernel
theorem dX0_cut_135 : decode cX0_cut 135 = .ok (.if_icmp .ne 7, 3) := by decide +kernel
theorem dX0_cut_138 : decode cX0_cut 138 = .ok (.iload_n 1, 1) := by decide +kernel
theorem dX0_cut_139 : decode cX0_cut 139 = .ok (.goto 4, 3) := by decide +kernel
theorem dX0_cut_142 : decode cX0_cut 142 = .ok (.iload_n 3, 1) := by decide +kernel
theorem dX0_cut_143 : decode cX0_cut 143 = .ok (.ireturn, 1) := by decide +kernel
theorem dX0_search_0 : decode cX0_search 0 = .ok (.aload_n 0, 1) := by decide +kernel
theorem dX0_search_1 : decode cX0_search 1 = .ok (.iload_n 2, 1) := by decide +kernel
theorem dX0_search_2 : decode cX0_search 2 = .ok (.iload_n 3, 1) := by decide +kernel
theorem dX0_search_3 : decode cX0_search 3 = .ok (.invokevirtual 77, 3) := by decide +kernel
theorem dX0_search_6 : decode cX0_search 6 = .ok (.istore 4, 2) := by decide +kernel
theorem dX0_search_8 : decode cX0_search 8 = .ok (.iload 4, 2) := by decide +kernel
theorem dX0_search_10 : decode cX0_search 10 = .ok (.iconst (-1), 1) := by decide +kernel
theorem dX0_search_11 : decode cX0_search 11 = .ok (.if_icmp .eq 13, 3) := by decide +kernel
theorem dX0_search_14 : decode cX0_search 14 = .ok (.aload_n 0, 1) := by decide +kernel
theorem dX0_search_15 : decode cX0_search 15 = .ok (.iload 4, 2) := by decide +kernel
theorem dX0_search_17 : decode cX0_search 17 = .ok (.iload_n 3, 1) := by decide +kernel
theorem dX0_search_18 : decode cX0_search 18 = .ok (.invokevirtual 81, 3) := by decide +kernel
theorem dX0_search_21 : decode cX0_search 21 = .ok (.ifCond .ne 5, 3) := by decide +kernel
theorem dX0_search_24 : decode cX0_search 24 = .ok (.iconst (-1), 1) := by decide +kernel
theorem dX0_search_25 : decode cX0_search 25 = .ok (.ireturn, 1) := by decide +kernel
theorem dX0_search_26 : decode cX0_search 26 = .ok (.iload_n 1, 1) := by decide +kernel
theorem dX0_search_27 : decode cX0_search 27 = .ok (.istore 5, 2) := by decide +kernel
theorem dX0_search_29 : decode cX0_search 29 = .ok (.iload 5, 2) := by decide +kernel
theorem dX0_search_31 : decode cX0_search 31 = .ok (.aload_n 0, 1) := by decide +kernel
theorem dX0_search_32 : decode cX0_search 32 = .ok (.getfield 9, 3) := by decide +kernel
theorem dX0_search_35 : decode cX0_search 35 = .ok (.getfield 26, 3) := by decide +kernel
theorem dX0_search_38 : decode cX0_search 38 = .ok (.if_icmp .ge 21, 3) := by decide +kernel
theorem dX0_search_41 : decode cX0_search 41 = .ok (.iload 4, 2) := by decide +kernel
theorem dX0_search_43 : decode cX0_search 43 = .ok (.iload_n 3, 1) := by decide +kernel
theorem dX0_search_44 : decode cX0_search 44 = .ok (.ior, 1) := by decide +kernel
theorem dX0_search_45 : decode cX0_search 45 = .ok (.iload 5, 2) := by decide +kernel
theorem dX0_search_47 : decode cX0_search 47 = .ok (.invokestatic 31, 3) := by decide +kernel
theorem dX0_search_50 : decode cX0_search 50 = .ok (.ifCond .eq 9, 3) := by decide +kernel
theorem dX0_search_53 : decode cX0_search 53 = .ok (.iinc 5 1, 3) := by decide +kernel
theorem dX0_search_56 : decode cX0_search 56 = .ok (.goto (-27), 3) := by decide +kernel
theorem dX0_search_59 : decode cX0_search 59 = .ok (.iload 5, 2) := by decide +kernel
theorem dX0_search_61 : decode cX0_search 61 = .ok (.aload_n 0, 1) := by decide +kernel
theorem dX0_search_62 : decode cX0_search 62 = .ok (.getfield 9, 3) := by decide +kernel
theorem dX0_search_65 : decode cX0_search 65 = .ok (.getfield 26, 3) := by decide +kernel
theorem dX0_search_68 : decode cX0_search 68 = .ok (.if_icmp .lt 6, 3) := by decide +kernel
theorem dX0_search_71 : decode cX0_search 71 = .ok (.iload 4, 2) := by decide +kernel
theorem dX0_search_73 : decode cX0_search 73 = .ok (.ireturn, 1) := by decide +kernel
theorem dX0_search_74 : decode cX0_search 74 = .ok (.aload_n 0, 1) := by decide +kernel
theorem dX0_search_75 : decode cX0_search 75 = .ok (.iload 5, 2) := by decide +kernel
theorem dX0_search_77 : decode cX0_search 77 = .ok (.iconst 1, 1) := by decide +kernel
theorem dX0_search_78 : decode cX0_search 78 = .ok (.iadd, 1) := by decide +kernel
theorem dX0_search_79 : decode cX0_search 79 = .ok (.iload 4, 2) := by decide +kernel
theorem dX0_search_81 : decode cX0_search 81 = .ok (.iconst 1, 1) := by decide +kernel
theorem dX0_search_82 : decode cX0_search 82 = .ok (.iload 5, 2) := by decide +kernel
theorem dX0_search_84 : decode cX0_search 84 = .ok (.ishl, 1) := by decide +kernel
theorem dX0_search_85 : decode cX0_search 85 = .ok (.ior, 1) := by decide +kernel
theorem dX0_search_86 : decode cX0_search 86 = .ok (.iload_n 3, 1) := by decide +kernel
theorem dX0_search_87 : decode cX0_search 87 = .ok (.invokevirtual 73, 3) := by decide +kernel
theorem dX0_search_90 : decode cX0_search 90 = .ok (.istore 6, 2) := by decide +kernel
theorem dX0_search_92 : decode cX0_search 92 = .ok (.iload 6, 2) := by decide +kernel
theorem dX0_search_94 : decode cX0_search 94 = .ok (.iconst (-1), 1) := by decide +kernel
theorem dX0_search_95 : decode cX0_search 95 = .ok (.if_icmp .eq 8, 3) := by decide +kernel
theorem dX0_search_98 : decode cX0_search 98 = .ok (.iload 6, 2) := by decide +kernel
theorem dX0_search_100 : decode cX0_search 100 = .ok (.goto 19, 3) := by decide +kernel
theorem dX0_search_103 : decode cX0_search 103 = .ok (.aload_n 0, 1) := by decide +kernel
theorem dX0_search_104 : decode cX0_search 104 = .ok (.iload 5, 2) := by decide +kernel
theorem dX0_search_106 : decode cX0_search 106 = .ok (.iconst 1, 1) := by decide +kernel
theorem dX0_search_107 : decode cX0_search 107 = .ok (.iadd, 1) := by decide +kernel
theorem dX0_search_108 : decode cX0_search 108 = .ok (.iload 4, 2) := by decide +kernel
theorem dX0_search_110 : decode cX0_search 110 = .ok (.iload_n 3, 1) := by decide +kernel
theorem dX0_search_111 : decode cX0_search 111 = .ok (.iconst 1, 1) := by decide +kernel
theorem dX0_search_112 : decode cX0_search 112 = .ok (.iload 5, 2) := by decide +kernel
theorem dX0_search_114 : decode cX0_search 114 = .ok (.ishl, 1) := by decide +kernel
theorem dX0_search_115 : decode cX0_search 115 = .ok (.ior, 1) := by decide +kernel
theorem dX0_search_116 : decode cX0_search 116 = .ok (.invokevirtual 73, 3) := by decide +kernel
theorem dX0_search_119 : decode cX0_search 119 = .ok (.ireturn, 1) := by decide +kernel
theorem dX0_settled_0 : decode cX0_settled 0 = .ok (.iload_n 1, 1) := by decide +kernel
theorem dX0_settled_1 : decode cX0_settled 1 = .ok (.istore_n 3, 1) := by decide +kernel
theorem dX0_settled_2 : decode cX0_settled 2 = .ok (.iconst 0, 1) := by decide +kernel
theorem dX0_settled_3 : decode cX0_settled 3 = .ok (.istore 4, 2) := by decide +kernel
theorem dX0_settled_5 : decode cX0_settled 5 = .ok (.iload 4, 2) := by decide +kernel
theorem dX0_settled_7 : decode cX0_settled 7 = .ok (.bipush 16, 2) := by decide +kernel
theorem dX0_settled_9 : decode cX0_settled 9 = .ok (.if_icmp .gt 87, 3) := by decide +kernel
theorem dX0_settled_12 : decode cX0_settled 12 = .ok (.iload_n 3, 1) := by decide +kernel
theorem dX0_settled_13 : decode cX0_settled 13 = .ok (.istore 5, 2) := by decide +kernel
theorem dX0_settled_15 : decode cX0_settled 15 = .ok (.iconst 0, 1) := by decide +kernel
theorem dX0_settled_16 : decode cX0_settled 16 = .ok (.istore 6, 2) := by decide +kernel
theorem dX0_settled_18 : decode cX0_settled 18 = .ok (.iload 6, 2) := by decide +kernel
theorem dX0_settled_20 : decode cX0_settled 20 = .ok (.aload_n 0, 1) := by decide +kernel
theorem dX0_settled_21 : decode cX0_settled 21 = .ok (.getfield 9, 3) := by decide +kernel
theorem dX0_settled_24 : decode cX0_settled 24 = .ok (.getfield 26, 3) := by decide +kernel
theorem dX0_settled_27 : decode cX0_settled 27 = .ok (.if_icmp .ge 35, 3) := by decide +kernel
theorem dX0_settled_30 : decode cX0_settled 30 = .ok (.iload_n 3, 1) := by decide +kernel
theorem dX0_settled_31 : decode cX0_settled 31 = .ok (.iload_n 3, 1) := by decide +kernel
theorem dX0_settled_32 : decode cX0_settled 32 = .ok (.iload 6, 2) := by decide +kernel
theorem dX0_settled_34 : decode cX0_settled 34 = .ok (.invokestatic 31, 3) := by decide +kernel
theorem dX0_settled_37 : decode cX0_settled 37 = .ok (.ifCond .eq 16, 3) := by decide +kernel
theorem dX0_settled_40 : decode cX0_settled 40 = .ok (.aload_n 0, 1) := by decide +kernel
theorem dX0_settled_41 : decode cX0_settled 41 = .ok (.getfield 9, 3) := by decide +kernel
theorem dX0_settled_44 : decode cX0_settled 44 = .ok (.getfield 35, 3) := by decide +kernel
theorem dX0_settled_47 : decode cX0_settled 47 = .ok (.iload 6, 2) := by decide +kernel
theorem dX0_settled_49 : decode cX0_settled 49 = .ok (.iaload, 1) := by decide +kernel
theorem dX0_settled_50 : decode cX0_settled 50 = .ok (.goto 4, 3) := by decide +kernel
theorem dX0_settled_53 : decode cX0_settled 53 = .ok (.iconst 0, 1) := by decide +kernel
theorem dX0_settled_54 : decode cX0_settled 54 = .ok (.ior, 1) := by decide +kernel
theorem dX0_settled_55 : decode cX0_settled 55 = .ok (.istore_n 3, 1) := by decide +kernel
theorem dX0_settled_56 : decode cX0_settled 56 = .ok (.iinc 6 1, 3) := by decide +kernel
theorem dX0_settled_59 : decode cX0_settled 59 = .ok (.goto (-41), 3) := by decide +kernel
theorem dX0_settled_62 : decode cX0_settled 62 = .ok (.aload_n 0, 1) := by decide +kernel
theorem dX0_settled_63 : decode cX0_settled 63 = .ok (.iload_n 3, 1) := by decide +kernel
theorem dX0_settled_64 : decode cX0_settled 64 = .ok (.iload_n 2, 1) := by decide +kernel
theorem dX0_settled_65 : decode cX0_settled 65 = .ok (.invokevirtual 84, 3) := by decide +kernel
theorem dX0_settled_68 : decode cX0_settled 68 = .ok (.istore_n 3, 1) := by decide +kernel
theorem dX0_settled_69 : decode cX0_settled 69 = .ok (.iload_n 3, 1) := by decide +kernel
theorem dX0_settled_70 : decode cX0_settled 70 = .ok (.iconst (-1), 1) := by decide +kernel
theorem dX0_settled_71 : decode cX0_settled 71 = .ok (.if_icmp .eq 9, 3) := by decide +kernel
theorem dX0_settled_74 : decode cX0_settled 74 = .ok (.iload_n 3, 1) := by decide +kernel
theorem dX0_settled_75 : decode cX0_settled 75 = .ok (.iload_n 2, 1) := by decide +kernel
theorem dX0_settled_76 : decode cX0_settled 76 = .ok (.iand, 1) := by decide +kernel
theorem dX0_settled_77 : decode cX0_settled 77 = .ok (.ifCond .eq 5, 3) := by decide +kernel
theorem dX0_settled_80 : decode cX0_settled 80 = .ok (.iconst (-1), 1) := by decide +kernel
theorem dX0_settled_81 : decode cX0_settled 81 = .ok (.ireturn, 1) := by decide +kernel
theorem dX0_settled_82 : decode cX0_settled 82 = .ok (.iload_n 3, 1) := by decide +kernel
theorem dX0_settled_83 : decode cX0_settled 83 = .ok (.iload 5, 2) := by decide +kernel
theorem dX0_settled_85 : decode cX0_settled 85 = .ok (.if_icmp .ne 5, 3) := by decide +kernel
theorem dX0_settled_88 : decode cX0_settled 88 = .ok (.iload_n 3, 1) := by decide +kernel
theorem dX0_settled_89 : decode cX0_settled 89 = .ok (.ireturn, 1) := by decide +kernel
theorem dX0_settled_90 : decode cX0_settled 90 = .ok (.iinc 4 1, 3) := by decide +kernel
theorem dX0_settled_93 : decode cX0_settled 93 = .ok (.goto (-88), 3) := by decide +kernel
theorem dX0_settled_96 : decode cX0_settled 96 = .ok (.iconst (-1), 1) := by decide +kernel
theorem dX0_settled_97 : decode cX0_settled 97 = .ok (.ireturn, 1) := by decide +kernel
theorem dX0_withLastHelpers_0 : decode cX0_withLastHelpers 0 = .ok (.iload_n 1, 1) := by decide +kernel
theorem dX0_withLastHelpers_1 : decode cX0_withLastHelpers 1 = .ok (.istore_n 3, 1) := by decide +kernel
theorem dX0_withLastHelpers_2 : decode cX0_withLastHelpers 2 = .ok (.iconst 0, 1) := by decide +kernel
theorem dX0_withLastHelpers_3 : decode cX0_withLastHelpers 3 = .ok (.istore 4, 2) := by decide +kernel
theorem dX0_withLastHelpers_5 : decode cX0_withLastHelpers 5 = .ok (.iload 4, 2) := by decide +kernel
theorem dX0_withLastHelpers_7 : decode cX0_withLastHelpers 7 = .ok (.aload_n 0, 1) := by decide +kernel
theorem dX0_withLastHelpers_8 : decode cX0_withLastHelpers 8 = .ok (.getfield 15, 3) := by decide +kernel
theorem dX0_withLastHelpers_11 : decode cX0_withLastHelpers 11 = .ok (.getfield 39, 3) := by decide +kernel
theorem dX0_withLastHelpers_14 : decode cX0_withLastHelpers 14 = .ok (.if_icmp .ge 73, 3) := by decide +kernel
theorem dX0_withLastHelpers_17 : decode cX0_withLastHelpers 17 = .ok (.aload_n 0, 1) := by decide +kernel
theorem dX0_withLastHelpers_18 : decode cX0_withLastHelpers 18 = .ok (.getfield 15, 3) := by decide +kernel
theorem dX0_withLastHelpers_21 : decode cX0_withLastHelpers 21 = .ok (.getfield 44, 3) := by decide +kernel
theorem dX0_withLastHelpers_24 : decode cX0_withLastHelpers 24 = .ok (.iload 4, 2) := by decide +kernel
theorem dX0_withLastHelpers_26 : decode cX0_withLastHelpers 26 = .ok (.iaload, 1) := by decide +kernel
theorem dX0_withLastHelpers_27 : decode cX0_withLastHelpers 27 = .ok (.iload_n 2, 1) := by decide +kernel
theorem dX0_withLastHelpers_28 : decode cX0_withLastHelpers 28 = .ok (.iconst (-1), 1) := by decide +kernel
theorem dX0_withLastHelpers_29 : decode cX0_withLastHelpers 29 = .ok (.ixor, 1) := by decide +kernel
theorem dX0_withLastHelpers_30 : decode cX0_withLastHelpers 30 = .ok (.iand, 1) := by decide +kernel
theorem dX0_withLastHelpers_31 : decode cX0_withLastHelpers 31 = .ok (.istore 5, 2) := by decide +kernel
theorem dX0_withLastHelpers_33 : decode cX0_withLastHelpers 33 = .ok (.iload 5, 2) := by decide +kernel
theorem dX0_withLastHelpers_35 : decode cX0_withLastHelpers 35 = .ok (.invokestatic 47, 3) := by decide +kernel
theorem dX0_withLastHelpers_38 : decode cX0_withLastHelpers 38 = .ok (.aload_n 0, 1) := by decide +kernel
theorem dX0_withLastHelpers_39 : decode cX0_withLastHelpers 39 = .ok (.getfield 15, 3) := by decide +kernel
theorem dX0_withLastHelpers_42 : decode cX0_withLastHelpers 42 = .ok (.getfield 56, 3) := by decide +kernel
theorem dX0_withLastHelpers_45 : decode cX0_withLastHelpers 45 = .ok (.iload 4, 2) := by decide +kernel
theorem dX0_withLastHelpers_47 : decode cX0_withLastHelpers 47 = .ok (.iaload, 1) := by decide +kernel
theorem dX0_withLastHelpers_48 : decode cX0_withLastHelpers 48 = .ok (.isub, 1) := by decide +kernel
theorem dX0_withLastHelpers_49 : decode cX0_withLastHelpers 49 = .ok (.istore 6, 2) := by decide +kernel
theorem dX0_withLastHelpers_51 : decode cX0_withLastHelpers 51 = .ok (.iload 6, 2) := by decide +kernel
theorem dX0_withLastHelpers_53 : decode cX0_withLastHelpers 53 = .ok (.ifCond .gt 28, 3) := by decide +kernel
theorem dX0_withLastHelpers_56 : decode cX0_withLastHelpers 56 = .ok (.aload_n 0, 1) := by decide +kernel
theorem dX0_withLastHelpers_57 : decode cX0_withLastHelpers 57 = .ok (.getfield 15, 3) := by decide +kernel
theorem dX0_withLastHelpers_60 : decode cX0_withLastHelpers 60 = .ok (.iload 4, 2) := by decide +kernel
theorem dX0_withLastHelpers_62 : decode cX0_withLastHelpers 62 = .ok (.iload_n 3, 1) := by decide +kernel
theorem dX0_withLastHelpers_63 : decode cX0_withLastHelpers 63 = .ok (.invokevirtual 53, 3) := by decide +kernel
theorem dX0_withLastHelpers_66 : decode cX0_withLastHelpers 66 = .ok (.ifCond .eq 15, 3) := by decide +kernel
theorem dX0_withLastHelpers_69 : decode cX0_withLastHelpers 69 = .ok (.iload 6, 2) := by decide +kernel
theorem dX0_withLastHelpers_71 : decode cX0_withLastHelpers 71 = .ok (.ifCond .ge 5, 3) := by decide +kernel
theorem dX0_withLastHelpers_74 : decode cX0_withLastHelpers 74 = .ok (.iconst (-1), 1) := by decide +kernel
theorem dX0_withLastHelpers_75 : decode cX0_withLastHelpers 75 = .ok (.ireturn, 1) := by decide +kernel
theorem dX0_withLastHelpers_76 : decode cX0_withLastHelpers 76 = .ok (.iload_n 3, 1) := by decide +kernel
theorem dX0_withLastHelpers_77 : decode cX0_withLastHelpers 77 = .ok (.iload 5, 2) := by decide +kernel
theorem dX0_withLastHelpers_79 : decode cX0_withLastHelpers 79 = .ok (.ior, 1) := by decide +kernel
theorem dX0_withLastHelpers_80 : decode cX0_withLastHelpers 80 = .ok (.istore_n 3, 1) := by decide +kernel
theorem dX0_withLastHelpers_81 : decode cX0_withLastHelpers 81 = .ok (.iinc 4 1, 3) := by decide +kernel
theorem dX0_withLastHelpers_84 : decode cX0_withLastHelpers 84 = .ok (.goto (-79), 3) := by decide +kernel
theorem dX0_withLastHelpers_87 : decode cX0_withLastHelpers 87 = .ok (.iload_n 3, 1) := by decide +kernel
theorem dX0_withLastHelpers_88 : decode cX0_withLastHelpers 88 = .ok (.ireturn, 1) := by decide +kernel
theorem dX0_isWithinLimits_0 : decode cX0_isWithinLimits 0 = .ok (.iload_n 1, 1) := by decide +kernel
theorem dX0_isWithinLimits_1 : decode cX0_isWithinLimits 1 = .ok (.aload_n 0, 1) := by decide +kernel
theorem dX0_isWithinLimits_2 : decode cX0_isWithinLimits 2 = .ok (.getfield 23, 3) := by decide +kernel
theorem dX0_isWithinLimits_5 : decode cX0_isWithinLimits 5 = .ok (.iconst (-1), 1) := by decide +kernel
theorem dX0_isWithinLimits_6 : decode cX0_isWithinLimits 6 = .ok (.ixor, 1) := by decide +kernel
theorem dX0_isWithinLimits_7 : decode cX0_isWithinLimits 7 = .ok (.iand, 1) := by decide +kernel
theorem dX0_isWithinLimits_8 : decode cX0_isWithinLimits 8 = .ok (.invokestatic 47, 3) := by decide +kernel
theorem dX0_isWithinLimits_11 : decode cX0_isWithinLimits 11 = .ok (.aload_n 0, 1) := by decide +kernel
theorem dX0_isWithinLimits_12 : decode cX0_isWithinLimits 12 = .ok (.getfield 23, 3) := by decide +kernel
theorem dX0_isWithinLimits_15 : decode cX0_isWithinLimits 15 = .ok (.iload_n 2, 1) := by decide +kernel
theorem dX0_isWithinLimits_16 : decode cX0_isWithinLimits 16 = .ok (.iand, 1) := by decide +kernel
theorem dX0_isWithinLimits_17 : decode cX0_isWithinLimits 17 = .ok (.invokestatic 47, 3) := by decide +kernel
theorem dX0_isWithinLimits_20 : decode cX0_isWithinLimits 20 = .ok (.iadd, 1) := by decide +kernel
theorem dX0_isWithinLimits_21 : decode cX0_isWithinLimits 21 = .ok (.istore_n 3, 1) := by decide +kernel
theorem dX0_isWithinLimits_22 : decode cX0_isWithinLimits 22 = .ok (.iload_n 1, 1) := by decide +kernel
theorem dX0_isWithinLimits_23 : decode cX0_isWithinLimits 23 = .ok (.invokestatic 47, 3) := by decide +kernel
theorem dX0_isWithinLimits_26 : decode cX0_isWithinLimits 26 = .ok (.aload_n 0, 1) := by decide +kernel
theorem dX0_isWithinLimits_27 : decode cX0_isWithinLimits 27 = .ok (.iload_n 1, 1) := by decide +kernel
theorem dX0_isWithinLimits_28 : decode cX0_isWithinLimits 28 = .ok (.iload_n 2, 1) := by decide +kernel
theorem dX0_isWithinLimits_29 : decode cX0_isWithinLimits 29 = .ok (.iload_n 1, 1) := by decide +kernel
theorem dX0_isWithinLimits_30 : decode cX0_isWithinLimits 30 = .ok (.invokevirtual 87, 3) := by decide +kernel
theorem dX0_isWithinLimits_33 : decode cX0_isWithinLimits 33 = .ok (.iadd, 1) := by decide +kernel
theorem dX0_isWithinLimits_34 : decode cX0_isWithinLimits 34 = .ok (.aload_n 0, 1) := by decide +kernel
theorem dX0_isWithinLimits_35 : decode cX0_isWithinLimits 35 = .ok (.getfield 67, 3) := by decide +kernel
theorem dX0_isWithinLimits_38 : decode cX0_isWithinLimits 38 = .ok (.if_icmp .gt 28, 3) := by decide +kernel
theorem dX0_isWithinLimits_41 : decode cX0_isWithinLimits 41 = .ok (.iload_n 3, 1) := by decide +kernel
theorem dX0_isWithinLimits_42 : decode cX0_isWithinLimits 42 = .ok (.aload_n 0, 1) := by decide +kernel
theorem dX0_isWithinLimits_43 : decode cX0_isWithinLimits 43 = .ok (.iload_n 1, 1) := by decide +kernel
theorem dX0_isWithinLimits_44 : decode cX0_isWithinLimits 44 = .ok (.iload_n 2, 1) := by decide +kernel
theorem dX0_isWithinLimits_45 : decode cX0_isWithinLimits 45 = .ok (.iload_n 1, 1) := by decide +kernel
theorem dX0_isWithinLimits_46 : decode cX0_isWithinLimits 46 = .ok (.aload_n 0, 1) := by decide +kernel
theorem dX0_isWithinLimits_47 : decode cX0_isWithinLimits 47 = .ok (.getfield 23, 3) := by decide +kernel
theorem dX0_isWithinLimits_50 : decode cX0_isWithinLimits 50 = .ok (.ior, 1) := by decide +kernel
theorem dX0_isWithinLimits_51 : decode cX0_isWithinLimits 51 = .ok (.invokevirtual 87, 3) := by decide +kernel
theorem dX0_isWithinLimits_54 : decode cX0_isWithinLimits 54 = .ok (.iadd, 1) := by decide +kernel
theorem dX0_isWithinLimits_55 : decode cX0_isWithinLimits 55 = .ok (.aload_n 0, 1) := by decide +kernel
theorem dX0_isWithinLimits_56 : decode cX0_isWithinLimits 56 = .ok (.getfield 70, 3) := by decide +kernel
theorem dX0_isWithinLimits_59 : decode cX0_isWithinLimits 59 = .ok (.if_icmp .gt 7, 3) := by decide +kernel
theorem dX0_isWithinLimits_62 : decode cX0_isWithinLimits 62 = .ok (.iconst 1, 1) := by decide +kernel
theorem dX0_isWithinLimits_63 : decode cX0_isWithinLimits 63 = .ok (.goto 4, 3) := by decide +kernel
theorem dX0_isWithinLimits_66 : decode cX0_isWithinLimits 66 = .ok (.iconst 0, 1) := by decide +kernel
theorem dX0_isWithinLimits_67 : decode cX0_isWithinLimits 67 = .ok (.ireturn, 1) := by decide +kernel
theorem dX0_lacking_0 : decode cX0_lacking 0 = .ok (.iconst 0, 1) := by decide +kernel
theorem dX0_lacking_1 : decode cX0_lacking 1 = .ok (.istore 4, 2) := by decide +kernel
theorem dX0_lacking_3 : decode cX0_lacking 3 = .ok (.iconst 0, 1) := by decide +kernel
theorem dX0_lacking_4 : decode cX0_lacking 4 = .ok (.istore 5, 2) := by decide +kernel
theorem dX0_lacking_6 : decode cX0_lacking 6 = .ok (.iconst 0, 1) := by decide +kernel
theorem dX0_lacking_7 : decode cX0_lacking 7 = .ok (.istore 6, 2) := by decide +kernel
theorem dX0_lacking_9 : decode cX0_lacking 9 = .ok (.iconst 0, 1) := by decide +kernel
theorem dX0_lacking_10 : decode cX0_lacking 10 = .ok (.istore 7, 2) := by decide +kernel
theorem dX0_lacking_12 : decode cX0_lacking 12 = .ok (.iload 7, 2) := by decide +kernel
theorem dX0_lacking_14 : decode cX0_lacking 14 = .ok (.aload_n 0, 1) := by decide +kernel
theorem dX0_lacking_15 : decode cX0_lacking 15 = .ok (.getfield 15, 3) := by decide +kernel
theorem dX0_lacking_18 : decode cX0_lacking 18 = .ok (.getfield 39, 3) := by decide +kernel
theorem dX0_lacking_21 : decode cX0_lacking 21 = .ok (.if_icmp .ge 102, 3) := by decide +kernel
theorem dX0_lacking_24 : decode cX0_lacking 24 = .ok (.aload_n 0, 1) := by decide +kernel
theorem dX0_lacking_25 : decode cX0_lacking 25 = .ok (.getfield 15, 3) := by decide +kernel
theorem dX0_lacking_28 : decode cX0_lacking 28 = .ok (.getfield 44, 3) := by decide +kernel
theorem dX0_lacking_31 : decode cX0_lacking 31 = .ok (.iload 7, 2) := by decide +kernel
theorem dX0_lacking_33 : decode cX0_lacking 33 = .ok (.iaload, 1) := by decide +kernel
theorem dX0_lacking_34 : decode cX0_lacking 34 = .ok (.iload_n 2, 1) := by decide +kernel
theorem dX0_lacking_35 : decode cX0_lacking 35 = .ok (.iconst (-1), 1) := by decide +kernel
theorem dX0_lacking_36 : decode cX0_lacking 36 = .ok (.ixor, 1) := by decide +kernel
theorem dX0_lacking_37 : decode cX0_lacking 37 = .ok (.iand, 1) := by decide +kernel
theorem dX0_lacking_38 : decode cX0_lacking 38 = .ok (.istore 8, 2) := by decide +kernel
theorem dX0_lacking_40 : decode cX0_lacking 40 = .ok (.aload_n 0, 1) := by decide +kernel
theorem dX0_lacking_41 : decode cX0_lacking 41 = .ok (.getfield 15, 3) := by decide +kernel
theorem dX0_lacking_44 : decode cX0_lacking 44 = .ok (.getfield 56, 3) := by decide +kernel
theorem dX0_lacking_47 : decode cX0_lacking 47 = .ok (.iload 7, 2) := by decide +kernel
theorem dX0_lacking_49 : decode cX0_lacking 49 = .ok (.iaload, 1) := by decide +kernel
theorem dX0_lacking_50 : decode cX0_lacking 50 = .ok (.iload 8, 2) := by decide +kernel
theorem dX0_lacking_52 : decode cX0_lacking 52 = .ok (.iload_n 3, 1) := by decide +kernel
theorem dX0_lacking_53 : decode cX0_lacking 53 = .ok (.iand, 1) := by decide +kernel
theorem dX0_lacking_54 : decode cX0_lacking 54 = .ok (.invokestatic 47, 3) := by decide +kernel
theorem dX0_lacking_57 : decode cX0_lacking 57 = .ok (.isub, 1) := by decide +kernel
theorem dX0_lacking_58 : decode cX0_lacking 58 = .ok (.istore 9, 2) := by decide +kernel
theorem dX0_lacking_60 : decode cX0_lacking 60 = .ok (.iload 9, 2) := by decide +kernel
theorem dX0_lacking_62 : decode cX0_lacking 62 = .ok (.ifCond .le 55, 3) := by decide +kernel
theorem dX0_lacking_65 : decode cX0_lacking 65 = .ok (.aload_n 0, 1) := by decide +kernel
theorem dX0_lacking_66 : decode cX0_lacking 66 = .ok (.getfield 15, 3) := by decide +kernel
theorem dX0_lacking_69 : decode cX0_lacking 69 = .ok (.iload 7, 2) := by decide +kernel
theorem dX0_lacking_71 : decode cX0_lacking 71 = .ok (.iload_n 1, 1) := by decide +kernel
theorem dX0_lacking_72 : decode cX0_lacking 72 = .ok (.invokevirtual 53, 3) := by decide +kernel
theorem dX0_lacking_75 : decode cX0_lacking 75 = .ok (.ifCond .eq 42, 3) := by decide +kernel
theorem dX0_lacking_78 : decode cX0_lacking 78 = .ok (.iload 4, 2) := by decide +kernel
theorem dX0_lacking_80 : decode cX0_lacking 80 = .ok (.iload 9, 2) := by decide +kernel
theorem dX0_lacking_82 : decode cX0_lacking 82 = .ok (.invokestatic 90, 3) := by decide +kernel
theorem dX0_lacking_85 : decode cX0_lacking 85 = .ok (.istore 4, 2) := by decide +kernel
theorem dX0_lacking_87 : decode cX0_lacking 87 = .ok (.iload 8, 2) := by decide +kernel
theorem dX0_lacking_89 : decode cX0_lacking 89 = .ok (.iload_n 3, 1) := by decide +kernel
theorem dX0_lacking_90 : decode cX0_lacking 90 = .ok (.iconst (-1), 1) := by decide +kernel
theorem dX0_lacking_91 : decode cX0_lacking 91 = .ok (.ixor, 1) := by decide +kernel
theorem dX0_lacking_92 : decode cX0_lacking 92 = .ok (.iand, 1) := by decide +kernel
theorem dX0_lacking_93 : decode cX0_lacking 93 = .ok (.iload 6, 2) := by decide +kernel
theorem dX0_lacking_95 : decode cX0_lacking 95 = .ok (.iand, 1) := by decide +kernel
theorem dX0_lacking_96 : decode cX0_lacking 96 = .ok (.ifCond .ne 21, 3) := by decide +kernel
theorem dX0_lacking_99 : decode cX0_lacking 99 = .ok (.iload 5, 2) := by decide +kernel
theorem dX0_lacking_101 : decode cX0_lacking 101 = .ok (.iload 9, 2) := by decide +kernel
theorem dX0_lacking_103 : decode cX0_lacking 103 = .ok (.iadd, 1) := by decide +kernel
theorem dX0_lacking_104 : decode cX0_lacking 104 = .ok (.istore 5, 2) := by decide +kernel
theorem dX0_lacking_106 : decode cX0_lacking 106 = .ok (.iload 6, 2) := by decide +kernel
theorem dX0_lacking_108 : decode cX0_lacking 108 = .ok (.iload 8, 2) := by decide +kernel
theorem dX0_lacking_110 : decode cX0_lacking 110 = .ok (.iload_n 3, 1) := by decide +kernel
theorem dX0_lacking_111 : decode cX0_lacking 111 = .ok (.iconst (-1), 1) := by decide +kernel
theorem dX0_lacking_112 : decode cX0_lacking 112 = .ok (.ixor, 1) := by decide +kernel
theorem dX0_lacking_113 : decode cX0_lacking 113 = .ok (.iand, 1) := by decide +kernel
theorem dX0_lacking_114 : decode cX0_lacking 114 = .ok (.ior, 1) := by decide +kernel
theorem dX0_lacking_115 : decode cX0_lacking 115 = .ok (.istore 6, 2) := by decide +kernel
theorem dX0_lacking_117 : decode cX0_lacking 117 = .ok (.iinc 7 1, 3) := by decide +kernel
theorem dX0_lacking_120 : decode cX0_lacking 120 = .ok (.goto (-108), 3) := by decide +kernel
theorem dX0_lacking_123 : decode cX0_lacking 123 = .ok (.iload 4, 2) := by decide +kernel
theorem dX0_lacking_125 : decode cX0_lacking 125 = .ok (.iload 5, 2) := by decide +kernel
theorem dX0_lacking_127 : decode cX0_lacking 127 = .ok (.invokestatic 90, 3) := by decide +kernel
theorem dX0_lacking_130 : decode cX0_lacking 130 = .ok (.ireturn, 1) := by decide +kernel
theorem dX1_init_0 : decode cX1_init 0 = .ok (.aload_n 0, 1) := by decide +kernel
theorem dX1_init_1 : decode cX1_init 1 = .ok (.invokespecial 3, 3) := by decide +kernel
theorem dX1_init_4 : decode cX1_init 4 = .ok (.aload_n 0, 1) := by decide +kernel
theorem dX1_init_5 : decode cX1_init 5 = .ok (.bipush 10, 2) := by decide +kernel
theorem dX1_init_7 : decode cX1_init 7 = .ok (.newarray .boolean, 2) := by decide +kernel
theorem dX1_init_9 : decode cX1_init 9 = .ok (.putfield 9, 3) := by decide +kernel
theorem dX1_init_12 : decode cX1_init 12 = .ok (.aload_n 0, 1) := by decide +kernel
theorem dX1_init_13 : decode cX1_init 13 = .ok (.bipush 10, 2) := by decide +kernel
theorem dX1_init_15 : decode cX1_init 15 = .ok (.newarray .int, 2) := by decide +kernel
theorem dX1_init_17 : decode cX1_init 17 = .ok (.putfield 15, 3) := by decide +kernel
theorem dX1_init_20 : decode cX1_init 20 = .ok (.aload_n 0, 1) := by decide +kernel
theorem dX1_init_21 : decode cX1_init 21 = .ok (.bipush 10, 2) := by decide +kernel
theorem dX1_init_23 : decode cX1_init 23 = .ok (.newarray .int, 2) := by decide +kernel
theorem dX1_init_25 : decode cX1_init 25 = .ok (.putfield 19, 3) := by decide +kernel
theorem dX1_init_28 : decode cX1_init 28 = .ok (.aload_n 0, 1) := by decide +kernel
theorem dX1_init_29 : decode cX1_init 29 = .ok (.sipush 160, 3) := by decide +kernel
theorem dX1_init_32 : decode cX1_init 32 = .ok (.newarray .int, 2) := by decide +kernel
theorem dX1_init_34 : decode cX1_init 34 = .ok (.putfield 22, 3) := by decide +kernel
theorem dX1_init_37 : decode cX1_init 37 = .ok (.aload_n 0, 1) := by decide +kernel
theorem dX1_init_38 : decode cX1_init 38 = .ok (.sipush 160, 3) := by decide +kernel
theorem dX1_init_41 : decode cX1_init 41 = .ok (.newarray .int, 2) := by decide +kernel
theorem dX1_init_43 : decode cX1_init 43 = .ok (.putfield 25, 3) := by decide +kernel
theorem dX1_init_46 : decode cX1_init 46 = .ok (.aload_n 0, 1) := by decide +kernel
theorem dX1_init_47 : decode cX1_init 47 = .ok (.sipush 160, 3) := by decide +kernel
theorem dX1_init_50 : decode cX1_init 50 = .ok (.newarray .int, 2) := by decide +kernel
theorem dX1_init_52 : decode cX1_init 52 = .ok (.putfield 28, 3) := by decide +kernel
theorem dX1_init_55 : decode cX1_init 55 = .ok (.return_, 1) := by decide +kernel
theorem dX1_clear_0 : decode cX1_clear 0 = .ok (.aload_n 0, 1) := by decide +kernel
theorem dX1_clear_1 : decode cX1_clear 1 = .ok (.iconst 0, 1) := by decide +kernel
theorem dX1_clear_2 : decode cX1_clear 2 = .ok (.putfield 31, 3) := by decide +kernel
theorem dX1_clear_5 : decode cX1_clear 5 = .ok (.aload_n 0, 1) := by decide +kernel
theorem dX1_clear_6 : decode cX1_clear 6 = .ok (.iconst 0, 1) := by decide +kernel
theorem dX1_clear_7 : decode cX1_clear 7 = .ok (.putfield 35, 3) := by decide +kernel
theorem dX1_clear_10 : decode cX1_clear 10 = .ok (.return_, 1) := by decide +kernel
theorem dX1_isWish_0 : decode cX1_isWish 0 = .ok (.iload_n 1, 1) := by decide +kernel
theorem dX1_isWish_1 : decode cX1_isWish 1 = .ok (.ifCond .lt 24, 3) := by decide +kernel
theorem dX1_isWish_4 : decode cX1_isWish 4 = .ok (.iload_n 1, 1) := by decide +kernel
theorem dX1_isWish_5 : decode cX1_isWish 5 = .ok (.aload_n 0, 1) := by decide +kernel
theorem dX1_isWish_6 : decode cX1_isWish 6 = .ok (.getfield 31, 3) := by decide +kernel
theorem dX1_isWish_9 : decode cX1_isWish 9 = .ok (.if_icmp .ge 16, 3) := by decide +kernel
theorem dX1_isWish_12 : decode cX1_isWish 12 = .ok (.aload_n 0, 1) := by decide +kernel
theorem dX1_isWish_13 : decode cX1_isWish 13 = .ok (.getfield 9, 3) := by decide +kernel
theorem dX1_isWish_16 : decode cX1_isWish 16 = .ok (.iload_n 1, 1) := by decide +kernel
theorem dX1_isWish_17 : decode cX1_isWish 17 = .ok (.baload, 1) := by decide +kernel
theorem dX1_isWish_18 : decode cX1_isWish 18 = .ok (.ifCond .ne 7, 3) := by decide +kernel
theorem dX1_isWish_21 : decode cX1_isWish 21 = .ok (.iconst 1, 1) := by decide +kernel
theorem dX1_isWish_22 : decode cX1_isWish 22 = .ok (.goto 4, 3) := by decide +kernel
theorem dX1_isWish_25 : decode cX1_isWish 25 = .ok (.iconst 0, 1) := by decide +kernel
theorem dX1_isWish_26 : decode cX1_isWish 26 = .ok (.ireturn, 1) := by decide +kernel
theorem dX1_addWish_0 : decode cX1_addWish 0 = .ok (.aload_n 0, 1) := by decide +kernel
theorem dX1_addWish_1 : decode cX1_addWish 1 = .ok (.iconst 0, 1) := by decide +kernel
theorem dX1_addWish_2 : decode cX1_addWish 2 = .ok (.iload_n 1, 1) := by decide +kernel
theorem dX1_addWish_3 : decode cX1_addWish 3 = .ok (.iload_n 3, 1) := by decide +kernel
theorem dX1_addWish_4 : decode cX1_addWish 4 = .ok (.invokevirtual 38, 3) := by decide +kernel
theorem dX1_addWish_7 : decode cX1_addWish 7 = .ok (.aload_n 0, 1) := by decide +kernel
theorem dX1_addWish_8 : decode cX1_addWish 8 = .ok (.iconst 0, 1) := by decide +kernel
theorem dX1_addWish_9 : decode cX1_addWish 9 = .ok (.iload_n 2, 1) := by decide +kernel
theorem dX1_addWish_10 : decode cX1_addWish 10 = .ok (.iload_n 3, 1) := by decide +kernel
theorem dX1_addWish_11 : decode cX1_addWish 11 = .ok (.invokevirtual 42, 3) := by decide +kernel
theorem dX1_addWish_14 : decode cX1_addWish 14 = .ok (.return_, 1) := by decide +kernel
theorem dX1_addLaw_0 : decode cX1_addLaw 0 = .ok (.aload_n 0, 1) := by decide +kernel
theorem dX1_addLaw_1 : decode cX1_addLaw 1 = .ok (.iconst 1, 1) := by decide +kernel
theorem dX1_addLaw_2 : decode cX1_addLaw 2 = .ok (.iload_n 2, 1) := by decide +kernel
theorem dX1_addLaw_3 : decode cX1_addLaw 3 = .ok (.iconst 0, 1) := by decide +kernel
theorem dX1_addLaw_4 : decode cX1_addLaw 4 = .ok (.invokevirtual 38, 3) := by decide +kernel
theorem dX1_addLaw_7 : decode cX1_addLaw 7 = .ok (.iconst 0, 1) := by decide +kernel
theorem dX1_addLaw_8 : decode cX1_addLaw 8 = .ok (.istore 6, 2) := by decide +kernel
theorem dX1_addLaw_10 : decode cX1_addLaw 10 = .ok (.iload 6, 2) := by decide +kernel
theorem dX1_addLaw_12 : decode cX1_addLaw 12 = .ok (.aload_n 1, 1) := by decide +kernel
theorem dX1_addLaw_13 : decode cX1_addLaw 13 = .ok (.getfield 46, 3) := by decide +kernel
theorem dX1_addLaw_16 : decode cX1_addLaw 16 = .ok (.if_icmp .ge 39, 3) := by decide +kernel
theorem dX1_addLaw_19 : decode cX1_addLaw 19 = .ok (.aload_n 1, 1) := by decide +kernel
theorem dX1_addLaw_20 : decode cX1_addLaw 20 = .ok (.getfield 51, 3) := by decide +kernel
theorem dX1_addLaw_23 : decode cX1_addLaw 23 = .ok (.iload 6, 2) := by decide +kernel
theorem dX1_addLaw_25 : decode cX1_addLaw 25 = .ok (.iaload, 1) := by decide +kernel
theorem dX1_addLaw_26 : decode cX1_addLaw 26 = .ok (.iload_n 2, 1) := by decide +kernel
theorem dX1_addLaw_27 : decode cX1_addLaw 27 = .ok (.if_icmp .ne 22, 3) := by decide +kernel
theorem dX1_addLaw_30 : decode cX1_addLaw 30 = .ok (.aload_n 0, 1) := by decide +kernel
theorem dX1_addLaw_31 : decode cX1_addLaw 31 = .ok (.iconst 1, 1) := by decide +kernel
theorem dX1_addLaw_32 : decode cX1_addLaw 32 = .ok (.iload 6, 2) := by decide +kernel
theorem dX1_addLaw_34 : decode cX1_addLaw 34 = .ok (.ishl, 1) := by decide +kernel
theorem dX1_addLaw_35 : decode cX1_addLaw 35 = .ok (.iload_n 3, 1) := by decide +kernel
theorem dX1_addLaw_36 : decode cX1_addLaw 36 = .ok (.aload_n 1, 1) := by decide +kernel
theorem dX1_addLaw_37 : decode cX1_addLaw 37 = .ok (.iload 6, 2) := by decide +kernel
theorem dX1_addLaw_39 : decode cX1_addLaw 39 = .ok (.iload 4, 2) := by decide +kernel
theorem dX1_addLaw_41 : decode cX1_addLaw 41 = .ok (.iload 5, 2) := by decide +kernel
theorem dX1_addLaw_43 : decode cX1_addLaw 43 = .ok (.invokevirtual 54, 3) := by decide +kernel
theorem dX1_addLaw_46 : decode cX1_addLaw 46 = .ok (.invokevirtual 42, 3) := by decide +kernel
theorem dX1_addLaw_49 : decode cX1_addLaw 49 = .ok (.iinc 6 1, 3) := by decide +kernel
theorem dX1_addLaw_52 : decode cX1_addLaw 52 = .ok (.goto (-42), 3) := by decide +kernel
theorem dX1_addLaw_55 : decode cX1_addLaw 55 = .ok (.return_, 1) := by decide +kernel
theorem dX1_wishesMetBy_0 : decode cX1_wishesMetBy 0 = .ok (.iconst 0, 1) := by decide +kernel
theorem dX1_wishesMetBy_1 : decode cX1_wishesMetBy 1 = .ok (.istore_n 2, 1) := by decide +kernel
theorem dX1_wishesMetBy_2 : decode cX1_wishesMetBy 2 = .ok (.iload_n 2, 1) := by decide +kernel
theorem dX1_wishesMetBy_3 : decode cX1_wishesMetBy 3 = .ok (.aload_n 0, 1) := by decide +kernel
theorem dX1_wishesMetBy_4 : decode cX1_wishesMetBy 4 = .ok (.getfield 35, 3) := by decide +kernel
theorem dX1_wishesMetBy_7 : decode cX1_wishesMetBy 7 = .ok (.if_icmp .ge 40, 3) := by decide +kernel
theorem dX1_wishesMetBy_10 : decode cX1_wishesMetBy 10 = .ok (.aload_n 0, 1) := by decide +kernel
theorem dX1_wishesMetBy_11 : decode cX1_wishesMetBy 11 = .ok (.getfield 22, 3) := by decide +kernel
theorem dX1_wishesMetBy_14 : decode cX1_wishesMetBy 14 = .ok (.iload_n 2, 1) := by decide +kernel
theorem dX1_wishesMetBy_15 : decode cX1_wishesMetBy 15 = .ok (.iaload, 1) := by decide +kernel
theorem dX1_wishesMetBy_16 : decode cX1_wishesMetBy 16 = .ok (.ifCond .ne 25, 3) := by decide +kernel
theorem dX1_wishesMetBy_19 : decode cX1_wishesMetBy 19 = .ok (.aload_n 0, 1) := by decide +kernel
theorem dX1_wishesMetBy_20 : decode cX1_wishesMetBy 20 = .ok (.getfield 28, 3) := by decide +kernel
theorem dX1_wishesMetBy_23 : decode cX1_wishesMetBy 23 = .ok (.iload_n 2, 1) := by decide +kernel
theorem dX1_wishesMetBy_24 : decode cX1_wishesMetBy 24 = .ok (.iaload, 1) := by decide +kernel
theorem dX1_wishesMetBy_25 : decode cX1_wishesMetBy 25 = .ok (.iload_n 1, 1) := by decide +kernel
theorem dX1_wishesMetBy_26 : decode cX1_wishesMetBy 26 = .ok (.iand, 1) := by decide +kernel
theorem dX1_wishesMetBy_27 : decode cX1_wishesMetBy 27 = .ok (.invokestatic 58, 3) := by decide +kernel
theorem dX1_wishesMetBy_30 : decode cX1_wishesMetBy 30 = .ok (.aload_n 0, 1) := by decide +kernel
theorem dX1_wishesMetBy_31 : decode cX1_wishesMetBy 31 = .ok (.getfield 25, 3) := by decide +kernel
theorem dX1_wishesMetBy_34 : decode cX1_wishesMetBy 34 = .ok (.iload_n 2, 1) := by decide +kernel
theorem dX1_wishesMetBy_35 : decode cX1_wishesMetBy 35 = .ok (.iaload, 1) := by decide +kernel
theorem dX1_wishesMetBy_36 : decode cX1_wishesMetBy 36 = .ok (.if_icmp .ge 5, 3) := by decide +kernel
theorem dX1_wishesMetBy_39 : decode cX1_wishesMetBy 39 = .ok (.iconst 0, 1) := by decide +kernel
theorem dX1_wishesMetBy_40 : decode cX1_wishesMetBy 40 = .ok (.ireturn, 1) := by decide +kernel
theorem dX1_wishesMetBy_41 : decode cX1_wishesMetBy 41 = .ok (.iinc 2 1, 3) := by decide +kernel
theorem dX1_wishesMetBy_44 : decode cX1_wishesMetBy 44 = .ok (.goto (-42), 3) := by decide +kernel
theorem dX1_wishesMetBy_47 : decode cX1_wishesMetBy 47 = .ok (.iconst 1, 1) := by decide +kernel
theorem dX1_wishesMetBy_48 : decode cX1_wishesMetBy 48 = .ok (.ireturn, 1) := by decide +kernel
theorem dX1_binds_0 : decode cX1_binds 0 = .ok (.aload_n 0, 1) := by decide +kernel
theorem dX1_binds_1 : decode cX1_binds 1 = .ok (.getfield 22, 3) := by decide +kernel
theorem dX1_binds_4 : decode cX1_binds 4 = .ok (.iload_n 1, 1) := by decide +kernel
theorem dX1_binds_5 : decode cX1_binds 5 = .ok (.iaload, 1) := by decide +kernel
theorem dX1_binds_6 : decode cX1_binds 6 = .ok (.ifCond .eq 14, 3) := by decide +kernel
theorem dX1_binds_9 : decode cX1_binds 9 = .ok (.aload_n 0, 1) := by decide +kernel
theorem dX1_binds_10 : decode cX1_binds 10 = .ok (.getfield 22, 3) := by decide +kernel
theorem dX1_binds_13 : decode cX1_binds 13 = .ok (.iload_n 1, 1) := by decide +kernel
theorem dX1_binds_14 : decode cX1_binds 14 = .ok (.iaload, 1) := by decide +kernel
theorem dX1_binds_15 : decode cX1_binds 15 = .ok (.iload_n 2, 1) := by decide +kernel
theorem dX1_binds_16 : decode cX1_binds 16 = .ok (.iand, 1) := by decide +kernel
theorem dX1_binds_17 : decode cX1_binds 17 = .ok (.ifCond .eq 7, 3) := by decide +kernel
theorem dX1_binds_20 : decode cX1_binds 20 = .ok (.iconst 1, 1) := by decide +kernel
theorem dX1_binds_21 : decode cX1_binds 21 = .ok (.goto 4, 3) := by decide +kernel
theorem dX1_binds_24 : decode cX1_binds 24 = .ok (.iconst 0, 1) := by decide +kernel
theorem dX1_binds_25 : decode cX1_binds 25 = .ok (.ireturn, 1) := by decide +kernel
theorem dX1_lose_0 : decode cX1_lose 0 = .ok (.iconst 0, 1) := by decide +kernel
theorem dX1_lose_1 : decode cX1_lose 1 = .ok (.istore_n 2, 1) := by decide +kernel
theorem dX1_lose_2 : decode cX1_lose 2 = .ok (.iload_n 2, 1) := by decide +kernel
theorem dX1_lose_3 : decode cX1_lose 3 = .ok (.aload_n 0, 1) := by decide +kernel
theorem dX1_lose_4 : decode cX1_lose 4 = .ok (.getfield 35, 3) := by decide +kernel
theorem dX1_lose_7 : decode cX1_lose 7 = .ok (.if_icmp .ge 54, 3) := by decide +kernel
theorem dX1_lose_10 : decode cX1_lose 10 = .ok (.aload_n 0, 1) := by decide +kernel
theorem dX1_lose_11 : decode cX1_lose 11 = .ok (.getfield 28, 3) := by decide +kernel
theorem dX1_lose_14 : decode cX1_lose 14 = .ok (.iload_n 2, 1) := by decide +kernel
theorem dX1_lose_15 : decode cX1_lose 15 = .ok (.dup2, 1) := by decide +kernel
theorem dX1_lose_16 : decode cX1_lose 16 = .ok (.iaload, 1) := by decide +kernel
theorem dX1_lose_17 : decode cX1_lose 17 = .ok (.iload_n 1, 1) := by decide +kernel
theorem dX1_lose_18 : decode cX1_lose 18 = .ok (.iconst (-1), 1) := by decide +kernel
theorem dX1_lose_19 : decode cX1_lose 19 = .ok (.ixor, 1) := by decide +kernel
theorem dX1_lose_20 : decode cX1_lose 20 = .ok (.iand, 1) := by decide +kernel
theorem dX1_lose_21 : decode cX1_lose 21 = .ok (.iastore, 1) := by decide +kernel
theorem dX1_lose_22 : decode cX1_lose 22 = .ok (.aload_n 0, 1) := by decide +kernel
theorem dX1_lose_23 : decode cX1_lose 23 = .ok (.getfield 22, 3) := by decide +kernel
theorem dX1_lose_26 : decode cX1_lose 26 = .ok (.iload_n 2, 1) := by decide +kernel
theorem dX1_lose_27 : decode cX1_lose 27 = .ok (.iaload, 1) := by decide +kernel
theorem dX1_lose_28 : decode cX1_lose 28 = .ok (.ifCond .eq 27, 3) := by decide +kernel
theorem dX1_lose_31 : decode cX1_lose 31 = .ok (.aload_n 0, 1) := by decide +kernel
theorem dX1_lose_32 : decode cX1_lose 32 = .ok (.getfield 25, 3) := by decide +kernel
theorem dX1_lose_35 : decode cX1_lose 35 = .ok (.iload_n 2, 1) := by decide +kernel
theorem dX1_lose_36 : decode cX1_lose 36 = .ok (.aload_n 0, 1) := by decide +kernel
theorem dX1_lose_37 : decode cX1_lose 37 = .ok (.getfield 25, 3) := by decide +kernel
theorem dX1_lose_40 : decode cX1_lose 40 = .ok (.iload_n 2, 1) := by decide +kernel
theorem dX1_lose_41 : decode cX1_lose 41 = .ok (.iaload, 1) := by decide +kernel
theorem dX1_lose_42 : decode cX1_lose 42 = .ok (.aload_n 0, 1) := by decide +kernel
theorem dX1_lose_43 : decode cX1_lose 43 = .ok (.getfield 28, 3) := by decide +kernel
theorem dX1_lose_46 : decode cX1_lose 46 = .ok (.iload_n 2, 1) := by decide +kernel
theorem dX1_lose_47 : decode cX1_lose 47 = .ok (.iaload, 1) := by decide +kernel
theorem dX1_lose_48 : decode cX1_lose 48 = .ok (.invokestatic 58, 3) := by decide +kernel
theorem dX1_lose_51 : decode cX1_lose 51 = .ok (.invokestatic 64, 3) := by decide +kernel
theorem dX1_lose_54 : decode cX1_lose 54 = .ok (.iastore, 1) := by decide +kernel
theorem dX1_lose_55 : decode cX1_lose 55 = .ok (.iinc 2 1, 3) := by decide +kernel
theorem dX1_lose_58 : decode cX1_lose 58 = .ok (.goto (-56), 3) := by decide +kernel
theorem dX1_lose_61 : decode cX1_lose 61 = .ok (.return_, 1) := by decide +kernel
theorem dX1_addDemand_0 : decode cX1_addDemand 0 = .ok (.aload_n 0, 1) := by decide +kernel
theorem dX1_addDemand_1 : decode cX1_addDemand 1 = .ok (.getfield 31, 3) := by decide +kernel
theorem dX1_addDemand_4 : decode cX1_addDemand 4 = .ok (.bipush 10, 2) := by decide +kernel
theorem dX1_addDemand_6 : decode cX1_addDemand 6 = .ok (.if_icmp .ge 43, 3) := by decide +kernel
theorem dX1_addDemand_9 : decode cX1_addDemand 9 = .ok (.aload_n 0, 1) := by decide +kernel
theorem dX1_addDemand_10 : decode cX1_addDemand 10 = .ok (.getfield 9, 3) := by decide +kernel
theorem dX1_addDemand_13 : decode cX1_addDemand 13 = .ok (.aload_n 0, 1) := by decide +kernel
theorem dX1_addDemand_14 : decode cX1_addDemand 14 = .ok (.getfield 31, 3) := by decide +kernel
theorem dX1_addDemand_17 : decode cX1_addDemand 17 = .ok (.iload_n 1, 1) := by decide +kernel
theorem dX1_addDemand_18 : decode cX1_addDemand 18 = .ok (.bastore, 1) := by decide +kernel
theorem dX1_addDemand_19 : decode cX1_addDemand 19 = .ok (.aload_n 0, 1) := by decide +kernel
theorem dX1_addDemand_20 : decode cX1_addDemand 20 = .ok (.getfield 15, 3) := by decide +kernel
theorem dX1_addDemand_23 : decode cX1_addDemand 23 = .ok (.aload_n 0, 1) := by decide +kernel
theorem dX1_addDemand_24 : decode cX1_addDemand 24 = .ok (.getfield 31, 3) := by decide +kernel
theorem dX1_addDemand_27 : decode cX1_addDemand 27 = .ok (.iload_n 2, 1) := by decide +kernel
theorem dX1_addDemand_28 : decode cX1_addDemand 28 = .ok (.iastore, 1) := by decide +kernel
theorem dX1_addDemand_29 : decode cX1_addDemand 29 = .ok (.aload_n 0, 1) := by decide +kernel
theorem dX1_addDemand_30 : decode cX1_addDemand 30 = .ok (.getfield 19, 3) := by decide +kernel
theorem dX1_addDemand_33 : decode cX1_addDemand 33 = .ok (.aload_n 0, 1) := by decide +kernel
theorem dX1_addDemand_34 : decode cX1_addDemand 34 = .ok (.getfield 31, 3) := by decide +kernel
theorem dX1_addDemand_37 : decode cX1_addDemand 37 = .ok (.iload_n 3, 1) := by decide +kernel
theorem dX1_addDemand_38 : decode cX1_addDemand 38 = .ok (.iastore, 1) := by decide +kernel
theorem dX1_addDemand_39 : decode cX1_addDemand 39 = .ok (.aload_n 0, 1) := by decide +kernel
theorem dX1_addDemand_40 : decode cX1_addDemand 40 = .ok (.dup, 1) := by decide +kernel
theorem dX1_addDemand_41 : decode cX1_addDemand 41 = .ok (.getfield 31, 3) := by decide +kernel
theorem dX1_addDemand_44 : decode cX1_addDemand 44 = .ok (.iconst 1, 1) := by decide +kernel
theorem dX1_addDemand_45 : decode cX1_addDemand 45 = .ok (.iadd, 1) := by decide +kernel
theorem dX1_addDemand_46 : decode cX1_addDemand 46 = .ok (.putfield 31, 3) := by decide +kernel
theorem dX1_addDemand_49 : decode cX1_addDemand 49 = .ok (.return_, 1) := by decide +kernel
theorem dX1_addBond_0 : decode cX1_addBond 0 = .ok (.aload_n 0, 1) := by decide +kernel
theorem dX1_addBond_1 : decode cX1_addBond 1 = .ok (.getfield 35, 3) := by decide +kernel
theorem dX1_addBond_4 : decode cX1_addBond 4 = .ok (.aload_n 0, 1) := by decide +kernel
theorem dX1_addBond_5 : decode cX1_addBond 5 = .ok (.getfield 22, 3) := by decide +kernel
theorem dX1_addBond_8 : decode cX1_addBond 8 = .ok (.arraylength, 1) := by decide +kernel
theorem dX1_addBond_9 : decode cX1_addBond 9 = .ok (.if_icmp .ge 43, 3) := by decide +kernel
theorem dX1_addBond_12 : decode cX1_addBond 12 = .ok (.aload_n 0, 1) := by decide +kernel
theorem dX1_addBond_13 : decode cX1_addBond 13 = .ok (.getfield 22, 3) := by decide +kernel
theorem dX1_addBond_16 : decode cX1_addBond 16 = .ok (.aload_n 0, 1) := by decide +kernel
theorem dX1_addBond_17 : decode cX1_addBond 17 = .ok (.getfield 35, 3) := by decide +kernel
theorem dX1_addBond_20 : decode cX1_addBond 20 = .ok (.iload_n 1, 1) := by decide +kernel
theorem dX1_addBond_21 : decode cX1_addBond 21 = .ok (.iastore, 1) := by decide +kernel
theorem dX1_addBond_22 : decode cX1_addBond 22 = .ok (.aload_n 0, 1) := by decide +kernel
theorem dX1_addBond_23 : decode cX1_addBond 23 = .ok (.getfield 25, 3) := by decide +kernel
theorem dX1_addBond_26 : decode cX1_addBond 26 = .ok (.aload_n 0, 1) := by decide +kernel
theorem dX1_addBond_27 : decode cX1_addBond 27 = .ok (.getfield 35, 3) := by decide +kernel
theorem dX1_addBond_30 : decode cX1_addBond 30 = .ok (.iload_n 2, 1) := by decide +kernel
theorem dX1_addBond_31 : decode cX1_addBond 31 = .ok (.iastore, 1) := by decide +kernel
theorem dX1_addBond_32 : decode cX1_addBond 32 = .ok (.aload_n 0, 1) := by decide +kernel
theorem dX1_addBond_33 : decode cX1_addBond 33 = .ok (.getfield 28, 3) := by decide +kernel
theorem dX1_addBond_36 : decode cX1_addBond 36 = .ok (.aload_n 0, 1) := by decide +kernel
theorem dX1_addBond_37 : decode cX1_addBond 37 = .ok (.getfield 35, 3) := by decide +kernel
theorem dX1_addBond_40 : decode cX1_addBond 40 = .ok (.iload_n 3, 1) := by decide +kernel
theorem dX1_addBond_41 : decode cX1_addBond 41 = .ok (.iastore, 1) := by decide +kernel
theorem dX1_addBond_42 : decode cX1_addBond 42 = .ok (.aload_n 0, 1) := by decide +kernel
theorem dX1_addBond_43 : decode cX1_addBond 43 = .ok (.dup, 1) := by decide +kernel
theorem dX1_addBond_44 : decode cX1_addBond 44 = .ok (.getfield 35, 3) := by decide +kernel
theorem dX1_addBond_47 : decode cX1_addBond 47 = .ok (.iconst 1, 1) := by decide +kernel
theorem dX1_addBond_48 : decode cX1_addBond 48 = .ok (.iadd, 1) := by decide +kernel
theorem dX1_addBond_49 : decode cX1_addBond 49 = .ok (.putfield 35, 3) := by decide +kernel
theorem dX1_addBond_52 : decode cX1_addBond 52 = .ok (.return_, 1) := by decide +kernel
theorem dX2_init_0 : decode cX2_init 0 = .ok (.aload_n 0, 1) := by decide +kernel
theorem dX2_init_1 : decode cX2_init 1 = .ok (.invokespecial 3, 3) := by decide +kernel
theorem dX2_init_4 : decode cX2_init 4 = .ok (.aload_n 0, 1) := by decide +kernel
theorem dX2_init_5 : decode cX2_init 5 = .ok (.iconst 5, 1) := by decide +kernel
theorem dX2_init_6 : decode cX2_init 6 = .ok (.newarray .long, 2) := by decide +kernel
theorem dX2_init_8 : decode cX2_init 8 = .ok (.putfield 9, 3) := by decide +kernel
theorem dX2_init_11 : decode cX2_init 11 = .ok (.aload_n 0, 1) := by decide +kernel
theorem dX2_init_12 : decode cX2_init 12 = .ok (.iconst 5, 1) := by decide +kernel
theorem dX2_init_13 : decode cX2_init 13 = .ok (.newarray .int, 2) := by decide +kernel
theorem dX2_init_15 : decode cX2_init 15 = .ok (.putfield 15, 3) := by decide +kernel
theorem dX2_init_18 : decode cX2_init 18 = .ok (.aload_n 0, 1) := by decide +kernel
theorem dX2_init_19 : decode cX2_init 19 = .ok (.iconst 5, 1) := by decide +kernel
theorem dX2_init_20 : decode cX2_init 20 = .ok (.newarray .int, 2) := by decide +kernel
theorem dX2_init_22 : decode cX2_init 22 = .ok (.putfield 19, 3) := by decide +kernel
theorem dX2_init_25 : decode cX2_init 25 = .ok (.aload_n 0, 1) := by decide +kernel
theorem dX2_init_26 : decode cX2_init 26 = .ok (.bipush 25, 2) := by decide +kernel
theorem dX2_init_28 : decode cX2_init 28 = .ok (.newarray .long, 2) := by decide +kernel
theorem dX2_init_30 : decode cX2_init 30 = .ok (.putfield 22, 3) := by decide +kernel
theorem dX2_init_33 : decode cX2_init 33 = .ok (.aload_n 0, 1) := by decide +kernel
theorem dX2_init_34 : decode cX2_init 34 = .ok (.bipush 25, 2) := by decide +kernel
theorem dX2_init_36 : decode cX2_init 36 = .ok (.newarray .int, 2) := by decide +kernel
theorem dX2_init_38 : decode cX2_init 38 = .ok (.putfield 25, 3) := by decide +kernel
theorem dX2_init_41 : decode cX2_init 41 = .ok (.aload_n 0, 1) := by decide +kernel
theorem dX2_init_42 : decode cX2_init 42 = .ok (.bipush 16, 2) := by decide +kernel
theorem dX2_init_44 : decode cX2_init 44 = .ok (.newarray .int, 2) := by decide +kernel
theorem dX2_init_46 : decode cX2_init 46 = .ok (.putfield 28, 3) := by decide +kernel
theorem dX2_init_49 : decode cX2_init 49 = .ok (.aload_n 0, 1) := by decide +kernel
theorem dX2_init_50 : decode cX2_init 50 = .ok (.bipush 16, 2) := by decide +kernel
theorem dX2_init_52 : decode cX2_init 52 = .ok (.newarray .int, 2) := by decide +kernel
theorem dX2_init_54 : decode cX2_init 54 = .ok (.putfield 31, 3) := by decide +kernel
theorem dX2_init_57 : decode cX2_init 57 = .ok (.aload_n 0, 1) := by decide +kernel
theorem dX2_init_58 : decode cX2_init 58 = .ok (.bipush 80, 2) := by decide +kernel
theorem dX2_init_60 : decode cX2_init 60 = .ok (.newarray .int, 2) := by decide +kernel
theorem dX2_init_62 : decode cX2_init 62 = .ok (.putfield 34, 3) := by decide +kernel
theorem dX2_init_65 : decode cX2_init 65 = .ok (.aload_n 0, 1) := by decide +kernel
theorem dX2_init_66 : decode cX2_init 66 = .ok (.bipush 80, 2) := by decide +kernel
theorem dX2_init_68 : decode cX2_init 68 = .ok (.newarray .int, 2) := by decide +kernel
theorem dX2_init_70 : decode cX2_init 70 = .ok (.putfield 37, 3) := by decide +kernel
theorem dX2_init_73 : decode cX2_init 73 = .ok (.aload_n 0, 1) := by decide +kernel
theorem dX2_init_74 : decode cX2_init 74 = .ok (.bipush 16, 2) := by decide +kernel
theorem dX2_init_76 : decode cX2_init 76 = .ok (.newarray .int, 2) := by decide +kernel
theorem dX2_init_78 : decode cX2_init 78 = .ok (.putfield 40, 3) := by decide +kernel
theorem dX2_init_81 : decode cX2_init 81 = .ok (.return_, 1) := by decide +kernel
theorem dX2_clear_0 : decode cX2_clear 0 = .ok (.aload_n 0, 1) := by decide +kernel
theorem dX2_clear_1 : decode cX2_clear 1 = .ok (.iconst 0, 1) := by decide +kernel
theorem dX2_clear_2 : decode cX2_clear 2 = .ok (.putfield 43, 3) := by decide +kernel
theorem dX2_clear_5 : decode cX2_clear 5 = .ok (.aload_n 0, 1) := by decide +kernel
theorem dX2_clear_6 : decode cX2_clear 6 = .ok (.iconst 0, 1) := by decide +kernel
theorem dX2_clear_7 : decode cX2_clear 7 = .ok (.putfield 47, 3) := by decide +kernel
theorem dX2_clear_10 : decode cX2_clear 10 = .ok (.aload_n 0, 1) := by decide +kernel
theorem dX2_clear_11 : decode cX2_clear 11 = .ok (.getfield 34, 3) := by decide +kernel
theorem dX2_clear_14 : decode cX2_clear 14 = .ok (.iconst (-1), 1) := by decide +kernel
theorem dX2_clear_15 : decode cX2_clear 15 = .ok (.invokestatic 50, 3) := by decide +kernel
theorem dX2_clear_18 : decode cX2_clear 18 = .ok (.return_, 1) := by decide +kernel
theorem dX2_hasTable_0 : decode cX2_hasTable 0 = .ok (.iload_n 1, 1) := by decide +kernel
theorem dX2_hasTable_1 : decode cX2_hasTable 1 = .ok (.ifCond .lt 15, 3) := by decide +kernel
theorem dX2_hasTable_4 : decode cX2_hasTable 4 = .ok (.iload_n 1, 1) := by decide +kernel
theorem dX2_hasTable_5 : decode cX2_hasTable 5 = .ok (.aload_n 0, 1) := by decide +kernel
theorem dX2_hasTable_6 : decode cX2_hasTable 6 = .ok (.getfield 43, 3) := by decide +kernel
theorem dX2_hasTable_9 : decode cX2_hasTable 9 = .ok (.if_icmp .ge 7, 3) := by decide +kernel
theorem dX2_hasTable_12 : decode cX2_hasTable 12 = .ok (.iconst 1, 1) := by decide +kernel
theorem dX2_hasTable_13 : decode cX2_hasTable 13 = .ok (.goto 4, 3) := by decide +kernel
theorem dX2_hasTable_16 : decode cX2_hasTable 16 = .ok (.iconst 0, 1) := by decide +kernel
theorem dX2_hasTable_17 : decode cX2_hasTable 17 = .ok (.ireturn, 1) := by decide +kernel
theorem dX2_hasColumn_0 : decode cX2_hasColumn 0 = .ok (.iload_n 1, 1) := by decide +kernel
theorem dX2_hasColumn_1 : decode cX2_hasColumn 1 = .ok (.ifCond .lt 29, 3) := by decide +kernel
theorem dX2_hasColumn_4 : decode cX2_hasColumn 4 = .ok (.iload_n 1, 1) := by decide +kernel
theorem dX2_hasColumn_5 : decode cX2_hasColumn 5 = .ok (.aload_n 0, 1) := by decide +kernel
theorem dX2_hasColumn_6 : decode cX2_hasColumn 6 = .ok (.getfield 43, 3) := by decide +kernel
theorem dX2_hasColumn_9 : decode cX2_hasColumn 9 = .ok (.if_icmp .ge 21, 3) := by decide +kernel
theorem dX2_hasColumn_12 : decode cX2_hasColumn 12 = .ok (.iload_n 2, 1) := by decide +kernel
theorem dX2_hasColumn_13 : decode cX2_hasColumn 13 = .ok (.ifCond .lt 17, 3) := by decide +kernel
theorem dX2_hasColumn_16 : decode cX2_hasColumn 16 = .ok (.iload_n 2, 1) := by decide +kernel
theorem dX2_hasColumn_17 : decode cX2_hasColumn 17 = .ok (.aload_n 0, 1) := by decide +kernel
theorem dX2_hasColumn_18 : decode cX2_hasColumn 18 = .ok (.getfield 15, 3) := by decide +kernel
theorem dX2_hasColumn_21 : decode cX2_hasColumn 21 = .ok (.iload_n 1, 1) := by decide +kernel
theorem dX2_hasColumn_22 : decode cX2_hasColumn 22 = .ok (.iaload, 1) := by decide +kernel
theorem dX2_hasColumn_23 : decode cX2_hasColumn 23 = .ok (.if_icmp .ge 7, 3) := by decide +kernel
theorem dX2_hasColumn_26 : decode cX2_hasColumn 26 = .ok (.iconst 1, 1) := by decide +kernel
theorem dX2_hasColumn_27 : decode cX2_hasColumn 27 = .ok (.goto 4, 3) := by decide +kernel
theorem dX2_hasColumn_30 : decode cX2_hasColumn 30 = .ok (.iconst 0, 1) := by decide +kernel
theorem dX2_hasColumn_31 : decode cX2_hasColumn 31 = .ok (.ireturn, 1) := by decide +kernel
theorem dX2_isPlainColumn_0 : decode cX2_isPlainColumn 0 = .ok (.aload_n 0, 1) := by decide +kernel
theorem dX2_isPlainColumn_1 : decode cX2_isPlainColumn 1 = .ok (.iload_n 1, 1) := by decide +kernel
theorem dX2_isPlainColumn_2 : decode cX2_isPlainColumn 2 = .ok (.iload_n 2, 1) := by decide +kernel
theorem dX2_isPlainColumn_3 : decode cX2_isPlainColumn 3 = .ok (.invokevirtual 56, 3) := by decide +kernel
theorem dX2_isPlainColumn_6 : decode cX2_isPlainColumn 6 = .ok (.ifCond .eq 21, 3) := by decide +kernel
theorem dX2_isPlainColumn_9 : decode cX2_isPlainColumn 9 = .ok (.aload_n 0, 1) := by decide +kernel
theorem dX2_isPlainColumn_10 : decode cX2_isPlainColumn 10 = .ok (.getfield 25, 3) := by decide +kernel
theorem dX2_isPlainColumn_13 : decode cX2_isPlainColumn 13 = .ok (.iload_n 1, 1) := by decide +kernel
theorem dX2_isPlainColumn_14 : decode cX2_isPlainColumn 14 = .ok (.iload_n 2, 1) := by decide +kernel
theorem dX2_isPlainColumn_15 : decode cX2_isPlainColumn 15 = .ok (.invokestatic 60, 3) := by decide +kernel
theorem dX2_isPlainColumn_18 : decode cX2_isPlainColumn 18 = .ok (.iaload, 1) := by decide +kernel
theorem dX2_isPlainColumn_19 : decode cX2_isPlainColumn 19 = .ok (.iconst (-1), 1) := by decide +kernel
theorem dX2_isPlainColumn_20 : decode cX2_isPlainColumn 20 = .ok (.if_icmp .ne 7, 3) := by decide +kernel
theorem dX2_isPlainColumn_23 : decode cX2_isPlainColumn 23 = .ok (.iconst 1, 1) := by decide +kernel
theorem dX2_isPlainColumn_24 : decode cX2_isPlainColumn 24 = .ok (.goto 4, 3) := by decide +kernel
theorem dX2_isPlainColumn_27 : decode cX2_isPlainColumn 27 = .ok (.iconst 0, 1) := by decide +kernel
theorem dX2_isPlainColumn_28 : decode cX2_isPlainColumn 28 = .ok (.ireturn, 1) := by decide +kernel
theorem dX2_hasRow_0 : decode cX2_hasRow 0 = .ok (.iload_n 1, 1) := by decide +kernel
theorem dX2_hasRow_1 : decode cX2_hasRow 1 = .ok (.ifCond .lt 15, 3) := by decide +kernel
theorem dX2_hasRow_4 : decode cX2_hasRow 4 = .ok (.iload_n 1, 1) := by decide +kernel
theorem dX2_hasRow_5 : decode cX2_hasRow 5 = .ok (.aload_n 0, 1) := by decide +kernel
theorem dX2_hasRow_6 : decode cX2_hasRow 6 = .ok (.getfield 47, 3) := by decide +kernel
theorem dX2_hasRow_9 : decode cX2_hasRow 9 = .ok (.if_icmp .ge 7, 3) := by decide +kernel
theorem dX2_hasRow_12 : decode cX2_hasRow 12 = .ok (.iconst 1, 1) := by decide +kernel
theorem dX2_hasRow_13 : decode cX2_hasRow 13 = .ok (.goto 4, 3) := by decide +kernel
theorem dX2_hasRow_16 : decode cX2_hasRow 16 = .ok (.iconst 0, 1) := by decide +kernel
theorem dX2_hasRow_17 : decode cX2_hasRow 17 = .ok (.ireturn, 1) := by decide +kernel
theorem dX2_allRows_0 : decode cX2_allRows 0 = .ok (.iconst 1, 1) := by decide +kernel
theorem dX2_allRows_1 : decode cX2_allRows 1 = .ok (.aload_n 0, 1) := by decide +kernel
theorem dX2_allRows_2 : decode cX2_allRows 2 = .ok (.getfield 47, 3) := by decide +kernel
theorem dX2_allRows_5 : decode cX2_allRows 5 = .ok (.ishl, 1) := by decide +kernel
theorem dX2_allRows_6 : decode cX2_allRows 6 = .ok (.iconst 1, 1) := by decide +kernel
theorem dX2_allRows_7 : decode cX2_allRows 7 = .ok (.isub, 1) := by decide +kernel
theorem dX2_allRows_8 : decode cX2_allRows 8 = .ok (.ireturn, 1) := by decide +kernel
theorem dX2_target_0 : decode cX2_target 0 = .ok (.aload_n 0, 1) := by decide +kernel
theorem dX2_target_1 : decode cX2_target 1 = .ok (.iload_n 1, 1) := by decide +kernel
theorem dX2_target_2 : decode cX2_target 2 = .ok (.iload_n 2, 1) := by decide +kernel
theorem dX2_target_3 : decode cX2_target 3 = .ok (.invokevirtual 56, 3) := by decide +kernel
theorem dX2_target_6 : decode cX2_target 6 = .ok (.ifCond .eq 16, 3) := by decide +kernel
theorem dX2_target_9 : decode cX2_target 9 = .ok (.aload_n 0, 1) := by decide +kernel
theorem dX2_target_10 : decode cX2_target 10 = .ok (.getfield 25, 3) := by decide +kernel
theorem dX2_target_13 : decode cX2_target 13 = .ok (.iload_n 1, 1) := by decide +kernel
theorem dX2_target_14 : decode cX2_target 14 = .ok (.iload_n 2, 1) := by decide +kernel
theorem dX2_target_15 : decode cX2_target 15 = .ok (.invokestatic 60, 3) := by decide +kernel
theorem dX2_target_18 : decode cX2_target 18 = .ok (.iaload, 1) := by decide +kernel
theorem dX2_target_19 : decode cX2_target 19 = .ok (.goto 4, 3) := by decide +kernel
theorem dX2_target_22 : decode cX2_target 22 = .ok (.iconst (-1), 1) := by decide +kernel
theorem dX2_target_23 : decode cX2_target 23 = .ok (.ireturn, 1) := by decide +kernel
theorem dX2_cell_0 : decode cX2_cell 0 = .ok (.iload_n 1, 1) := by decide +kernel
theorem dX2_cell_1 : decode cX2_cell 1 = .ok (.ifCond .lt 20, 3) := by decide +kernel
theorem dX2_cell_4 : decode cX2_cell 4 = .ok (.iload_n 1, 1) := by decide +kernel
theorem dX2_cell_5 : decode cX2_cell 5 = .ok (.aload_n 0, 1) := by decide +kernel
theorem dX2_cell_6 : decode cX2_cell 6 = .ok (.getfield 47, 3) := by decide +kernel
theorem dX2_cell_9 : decode cX2_cell 9 = .ok (.if_icmp .ge 12, 3) := by decide +kernel
theorem dX2_cell_12 : decode cX2_cell 12 = .ok (.iload_n 2, 1) := by decide +kernel
theorem dX2_cell_13 : decode cX2_cell 13 = .ok (.ifCond .lt 8, 3) := by decide +kernel
theorem dX2_cell_16 : decode cX2_cell 16 = .ok (.iload_n 2, 1) := by decide +kernel
theorem dX2_cell_17 : decode cX2_cell 17 = .ok (.iconst 5, 1) := by decide +kernel
theorem dX2_cell_18 : decode cX2_cell 18 = .ok (.if_icmp .lt 5, 3) := by decide +kernel
theorem dX2_cell_21 : decode cX2_cell 21 = .ok (.iconst (-1), 1) := by decide +kernel
theorem dX2_cell_22 : decode cX2_cell 22 = .ok (.ireturn, 1) := by decide +kernel
theorem dX2_cell_23 : decode cX2_cell 23 = .ok (.aload_n 0, 1) := by decide +kernel
theorem dX2_cell_24 : decode cX2_cell 24 = .ok (.getfield 34, 3) := by decide +kernel
theorem dX2_cell_27 : decode cX2_cell 27 = .ok (.iload_n 1, 1) := by decide +kernel
theorem dX2_cell_28 : decode cX2_cell 28 = .ok (.iconst 5, 1) := by decide +kernel
theorem dX2_cell_29 : decode cX2_cell 29 = .ok (.imul, 1) := by decide +kernel
theorem dX2_cell_30 : decode cX2_cell 30 = .ok (.iload_n 2, 1) := by decide +kernel
theorem dX2_cell_31 : decode cX2_cell 31 = .ok (.iadd, 1) := by decide +kernel
theorem dX2_cell_32 : decode cX2_cell 32 = .ok (.iaload, 1) := by decide +kernel
theorem dX2_cell_33 : decode cX2_cell 33 = .ok (.ireturn, 1) := by decide +kernel
theorem dX2_tableNamed_0 : decode cX2_tableNamed 0 = .ok (.iconst 0, 1) := by decide +kernel
theorem dX2_tableNamed_1 : decode cX2_tableNamed 1 = .ok (.istore_n 3, 1) := by decide +kernel
theorem dX2_tableNamed_2 : decode cX2_tableNamed 2 = .ok (.iload_n 3, 1) := by decide +kernel
theorem dX2_tableNamed_3 : decode cX2_tableNamed 3 = .ok (.aload_n 0, 1) := by decide +kernel
theorem dX2_tableNamed_4 : decode cX2_tableNamed 4 = .ok (.getfield 43, 3) := by decide +kernel
theorem dX2_tableNamed_7 : decode cX2_tableNamed 7 = .ok (.if_icmp .ge 22, 3) := by decide +kernel
theorem dX2_tableNamed_10 : decode cX2_tableNamed 10 = .ok (.aload_n 0, 1) := by decide +kernel
theorem dX2_tableNamed_11 : decode cX2_tableNamed 11 = .ok (.getfield 9, 3) := by decide +kernel
theorem dX2_tableNamed_14 : decode cX2_tableNamed 14 = .ok (.iload_n 3, 1) := by decide +kernel
theorem dX2_tableNamed_15 : decode cX2_tableNamed 15 = .ok (.laload, 1) := by decide +kernel
theorem dX2_tableNamed_16 : decode cX2_tableNamed 16 = .ok (.lload_n 1, 1) := by decide +kernel
theorem dX2_tableNamed_17 : decode cX2_tableNamed 17 = .ok (.lcmp, 1) := by decide +kernel
theorem dX2_tableNamed_18 : decode cX2_tableNamed 18 = .ok (.ifCond .ne 5, 3) := by decide +kernel
theorem dX2_tableNamed_21 : decode cX2_tableNamed 21 = .ok (.iload_n 3, 1) := by decide +kernel
theorem dX2_tableNamed_22 : decode cX2_tableNamed 22 = .ok (.ireturn, 1) := by decide +kernel
theorem dX2_tableNamed_23 : decode cX2_tableNamed 23 = .ok (.iinc 3 1, 3) := by decide +kernel
theorem dX2_tableNamed_26 : decode cX2_tableNamed 26 = .ok (.goto (-24), 3) := by decide +kernel
theorem dX2_tableNamed_29 : decode cX2_tableNamed 29 = .ok (.iconst (-1), 1) := by decide +kernel
theorem dX2_tableNamed_30 : decode cX2_tableNamed 30 = .ok (.ireturn, 1) := by decide +kernel
theorem dX2_columnNamed_0 : decode cX2_columnNamed 0 = .ok (.iconst 0, 1) := by decide +kernel
theorem dX2_columnNamed_1 : decode cX2_columnNamed 1 = .ok (.istore 4, 2) := by decide +kernel
theorem dX2_columnNamed_3 : decode cX2_columnNamed 3 = .ok (.iload 4, 2) := by decide +kernel
theorem dX2_columnNamed_5 : decode cX2_columnNamed 5 = .ok (.iconst 5, 1) := by decide +kernel
theorem dX2_columnNamed_6 : decode cX2_columnNamed 6 = .ok (.if_icmp .ge 38, 3) := by decide +kernel
theorem dX2_columnNamed_9 : decode cX2_columnNamed 9 = .ok (.aload_n 0, 1) := by decide +kernel
theorem dX2_columnNamed_10 : decode cX2_columnNamed 10 = .ok (.iload_n 1, 1) := by decide +kernel
theorem dX2_columnNamed_11 : decode cX2_columnNamed 11 = .ok (.iload 4, 2) := by decide +kernel
theorem dX2_columnNamed_13 : decode cX2_columnNamed 13 = .ok (.invokevirtual 56, 3) := by decide +kernel
theorem dX2_columnNamed_16 : decode cX2_columnNamed 16 = .ok (.ifCond .eq 28, 3) := by decide +kernel
theorem dX2_columnNamed_19 : decode cX2_columnNamed 19 = .ok (.aload_n 0, 1) := by decide +kernel
theorem dX2_columnNamed_20 : decode cX2_columnNamed 20 = .ok (.getfield 22, 3) := by decide +kernel
theorem dX2_columnNamed_23 : decode cX2_columnNamed 23 = .ok (.iload_n 1, 1) := by decide +kernel
theorem dX2_columnNamed_24 : decode cX2_columnNamed 24 = .ok (.iload 4, 2) := by decide +kernel
theorem dX2_columnNamed_26 : decode cX2_columnNamed 26 = .ok (.invokestatic 60, 3) := by decide +kernel
theorem dX2_columnNamed_29 : decode cX2_columnNamed 29 = .ok (.laload, 1) := by decide +kernel
theorem dX2_columnNamed_30 : decode cX2_columnNamed 30 = .ok (.lload_n 2, 1) := by decide +kernel
theorem dX2_columnNamed_31 : decode cX2_columnNamed 31 = .ok (.lcmp, 1) := by decide +kernel
theorem dX2_columnNamed_32 : decode cX2_columnNamed 32 = .ok (.ifCond .ne 6, 3) := by decide +kernel
theorem dX2_columnNamed_35 : decode cX2_columnNamed 35 = .ok (.iload 4, 2) := by decide +kernel
theorem dX2_columnNamed_37 : decode cX2_columnNamed 37 = .ok (.ireturn, 1) := by decide +kernel
theorem dX2_columnNamed_38 : decode cX2_columnNamed 38 = .ok (.iinc 4 1, 3) := by decide +kernel
theorem dX2_columnNamed_41 : decode cX2_columnNamed 41 = .ok (.goto (-38), 3) := by decide +kernel
theorem dX2_columnNamed_44 : decode cX2_columnNamed 44 = .ok (.iconst (-1), 1) := by decide +kernel
theorem dX2_columnNamed_45 : decode cX2_columnNamed 45 = .ok (.ireturn, 1) := by decide +kernel
theorem dX2_rowsOf_0 : decode cX2_rowsOf 0 = .ok (.iconst 0, 1) := by decide +kernel
theorem dX2_rowsOf_1 : decode cX2_rowsOf 1 = .ok (.istore_n 2, 1) := by decide +kernel
theorem dX2_rowsOf_2 : decode cX2_rowsOf 2 = .ok (.iconst 0, 1) := by decide +kernel
theorem dX2_rowsOf_3 : decode cX2_rowsOf 3 = .ok (.istore_n 3, 1) := by decide +kernel
theorem dX2_rowsOf_4 : decode cX2_rowsOf 4 = .ok (.iload_n 3, 1) := by decide +kernel
theorem dX2_rowsOf_5 : decode cX2_rowsOf 5 = .ok (.aload_n 0, 1) := by decide +kernel
theorem dX2_rowsOf_6 : decode cX2_rowsOf 6 = .ok (.getfield 47, 3) := by decide +kernel
theorem dX2_rowsOf_9 : decode cX2_rowsOf 9 = .ok (.if_icmp .ge 25, 3) := by decide +kernel
theorem dX2_rowsOf_12 : decode cX2_rowsOf 12 = .ok (.aload_n 0, 1) := by decide +kernel
theorem dX2_rowsOf_13 : decode cX2_rowsOf 13 = .ok (.getfield 28, 3) := by decide +kernel
theorem dX2_rowsOf_16 : decode cX2_rowsOf 16 = .ok (.iload_n 3, 1) := by decide +kernel
theorem dX2_rowsOf_17 : decode cX2_rowsOf 17 = .ok (.iaload, 1) := by decide +kernel
theorem dX2_rowsOf_18 : decode cX2_rowsOf 18 = .ok (.iload_n 1, 1) := by decide +kernel
theorem dX2_rowsOf_19 : decode cX2_rowsOf 19 = .ok (.if_icmp .ne 9, 3) := by decide +kernel
theorem dX2_rowsOf_22 : decode cX2_rowsOf 22 = .ok (.iload_n 2, 1) := by decide +kernel
theorem dX2_rowsOf_23 : decode cX2_rowsOf 23 = .ok (.iconst 1, 1) := by decide +kernel
theorem dX2_rowsOf_24 : decode cX2_rowsOf 24 = .ok (.iload_n 3, 1) := by decide +kernel
theorem dX2_rowsOf_25 : decode cX2_rowsOf 25 = .ok (.ishl, 1) := by decide +kernel
theorem dX2_rowsOf_26 : decode cX2_rowsOf 26 = .ok (.ior, 1) := by decide +kernel
theorem dX2_rowsOf_27 : decode cX2_rowsOf 27 = .ok (.istore_n 2, 1) := by decide +kernel
theorem dX2_rowsOf_28 : decode cX2_rowsOf 28 = .ok (.iinc 3 1, 3) := by decide +kernel
theorem dX2_rowsOf_31 : decode cX2_rowsOf 31 = .ok (.goto (-27), 3) := by decide +kernel
theorem dX2_rowsOf_34 : decode cX2_rowsOf 34 = .ok (.iload_n 2, 1) := by decide +kernel
theorem dX2_rowsOf_35 : decode cX2_rowsOf 35 = .ok (.ireturn, 1) := by decide +kernel
theorem dX2_rowOf_0 : decode cX2_rowOf 0 = .ok (.iconst 0, 1) := by decide +kernel
theorem dX2_rowOf_1 : decode cX2_rowOf 1 = .ok (.istore_n 3, 1) := by decide +kernel
theorem dX2_rowOf_2 : decode cX2_rowOf 2 = .ok (.iload_n 3, 1) := by decide +kernel
theorem dX2_rowOf_3 : decode cX2_rowOf 3 = .ok (.aload_n 0, 1) := by decide +kernel
theorem dX2_rowOf_4 : decode cX2_rowOf 4 = .ok (.getfield 47, 3) := by decide +kernel
theorem dX2_rowOf_7 : decode cX2_rowOf 7 = .ok (.if_icmp .ge 31, 3) := by decide +kernel
theorem dX2_rowOf_10 : decode cX2_rowOf 10 = .ok (.aload_n 0, 1) := by decide +kernel
theorem dX2_rowOf_11 : decode cX2_rowOf 11 = .ok (.getfield 28, 3) := by decide +kernel
theorem dX2_rowOf_14 : decode cX2_rowOf 14 = .ok (.iload_n 3, 1) := by decide +kernel
theorem dX2_rowOf_15 : decode cX2_rowOf 15 = .ok (.iaload, 1) := by decide +kernel
theorem dX2_rowOf_16 : decode cX2_rowOf 16 = .ok (.iload_n 1, 1) := by decide +kernel
theorem dX2_rowOf_17 : decode cX2_rowOf 17 = .ok (.if_icmp .ne 15, 3) := by decide +kernel
theorem dX2_rowOf_20 : decode cX2_rowOf 20 = .ok (.aload_n 0, 1) := by decide +kernel
theorem dX2_rowOf_21 : decode cX2_rowOf 21 = .ok (.getfield 31, 3) := by decide +kernel
theorem dX2_rowOf_24 : decode cX2_rowOf 24 = .ok (.iload_n 3, 1) := by decide +kernel
theorem dX2_rowOf_25 : decode cX2_rowOf 25 = .ok (.iaload, 1) := by decide +kernel
theorem dX2_rowOf_26 : decode cX2_rowOf 26 = .ok (.iload_n 2, 1) := by decide +kernel
theorem dX2_rowOf_27 : decode cX2_rowOf 27 = .ok (.if_icmp .ne 5, 3) := by decide +kernel
theorem dX2_rowOf_30 : decode cX2_rowOf 30 = .ok (.iload_n 3, 1) := by decide +kernel
theorem dX2_rowOf_31 : decode cX2_rowOf 31 = .ok (.ireturn, 1) := by decide +kernel
theorem dX2_rowOf_32 : decode cX2_rowOf 32 = .ok (.iinc 3 1, 3) := by decide +kernel
theorem dX2_rowOf_35 : decode cX2_rowOf 35 = .ok (.goto (-33), 3) := by decide +kernel
theorem dX2_rowOf_38 : decode cX2_rowOf 38 = .ok (.iconst (-1), 1) := by decide +kernel
theorem dX2_rowOf_39 : decode cX2_rowOf 39 = .ok (.ireturn, 1) := by decide +kernel
theorem dX2_linkersOf_0 : decode cX2_linkersOf 0 = .ok (.iconst 0, 1) := by decide +kernel
theorem dX2_linkersOf_1 : decode cX2_linkersOf 1 = .ok (.istore 4, 2) := by decide +kernel
theorem dX2_linkersOf_3 : decode cX2_linkersOf 3 = .ok (.iconst 0, 1) := by decide +kernel
theorem dX2_linkersOf_4 : decode cX2_linkersOf 4 = .ok (.istore 5, 2) := by decide +kernel
theorem dX2_linkersOf_6 : decode cX2_linkersOf 6 = .ok (.iload 5, 2) := by decide +kernel
theorem dX2_linkersOf_8 : decode cX2_linkersOf 8 = .ok (.aload_n 0, 1) := by decide +kernel
theorem dX2_linkersOf_9 : decode cX2_linkersOf 9 = .ok (.getfield 47, 3) := by decide +kernel
theorem dX2_linkersOf_12 : decode cX2_linkersOf 12 = .ok (.if_icmp .ge 40, 3) := by decide +kernel
theorem dX2_linkersOf_15 : decode cX2_linkersOf 15 = .ok (.aload_n 0, 1) := by decide +kernel
theorem dX2_linkersOf_16 : decode cX2_linkersOf 16 = .ok (.getfield 28, 3) := by decide +kernel
theorem dX2_linkersOf_19 : decode cX2_linkersOf 19 = .ok (.iload 5, 2) := by decide +kernel
theorem dX2_linkersOf_21 : decode cX2_linkersOf 21 = .ok (.iaload, 1) := by decide +kernel
theorem dX2_linkersOf_22 : decode cX2_linkersOf 22 = .ok (.iload_n 2, 1) := by decide +kernel
theorem dX2_linkersOf_23 : decode cX2_linkersOf 23 = .ok (.if_icmp .ne 23, 3) := by decide +kernel
theorem dX2_linkersOf_26 : decode cX2_linkersOf 26 = .ok (.aload_n 0, 1) := by decide +kernel
theorem dX2_linkersOf_27 : decode cX2_linkersOf 27 = .ok (.iload 5, 2) := by decide +kernel
theorem dX2_linkersOf_29 : decode cX2_linkersOf 29 = .ok (.iload_n 3, 1) := by decide +kernel
theorem dX2_linkersOf_30 : decode cX2_linkersOf 30 = .ok (.invokevirtual 64, 3) := by decide +kernel
theorem dX2_linkersOf_33 : decode cX2_linkersOf 33 = .ok (.iload_n 1, 1) := by decide +kernel
theorem dX2_linkersOf_34 : decode cX2_linkersOf 34 = .ok (.if_icmp .ne 12, 3) := by decide +kernel
theorem dX2_linkersOf_37 : decode cX2_linkersOf 37 = .ok (.iload 4, 2) := by decide +kernel
theorem dX2_linkersOf_39 : decode cX2_linkersOf 39 = .ok (.iconst 1, 1) := by decide +kernel
theorem dX2_linkersOf_40 : decode cX2_linkersOf 40 = .ok (.iload 5, 2) := by decide +kernel
theorem dX2_linkersOf_42 : decode cX2_linkersOf 42 = .ok (.ishl, 1) := by decide +kernel
theorem dX2_linkersOf_43 : decode cX2_linkersOf 43 = .ok (.ior, 1) := by decide +kernel
theorem dX2_linkersOf_44 : decode cX2_linkersOf 44 = .ok (.istore 4, 2) := by decide +kernel
theorem dX2_linkersOf_46 : decode cX2_linkersOf 46 = .ok (.iinc 5 1, 3) := by decide +kernel
theorem dX2_linkersOf_49 : decode cX2_linkersOf 49 = .ok (.goto (-43), 3) := by decide +kernel
theorem dX2_linkersOf_52 : decode cX2_linkersOf 52 = .ok (.iload 4, 2) := by decide +kernel
theorem dX2_linkersOf_54 : decode cX2_linkersOf 54 = .ok (.ireturn, 1) := by decide +kernel
theorem dX2_isLinkedFrom_0 : decode cX2_isLinkedFrom 0 = .ok (.iconst 0, 1) := by decide +kernel
theorem dX2_isLinkedFrom_1 : decode cX2_isLinkedFrom 1 = .ok (.istore_n 3, 1) := by decide +kernel
theorem dX2_isLinkedFrom_2 : decode cX2_isLinkedFrom 2 = .ok (.iload_n 3, 1) := by decide +kernel
theorem dX2_isLinkedFrom_3 : decode cX2_isLinkedFrom 3 = .ok (.aload_n 0, 1) := by decide +kernel
theorem dX2_isLinkedFrom_4 : decode cX2_isLinkedFrom 4 = .ok (.getfield 47, 3) := by decide +kernel
theorem dX2_isLinkedFrom_7 : decode cX2_isLinkedFrom 7 = .ok (.if_icmp .ge 32, 3) := by decide +kernel
theorem dX2_isLinkedFrom_10 : decode cX2_isLinkedFrom 10 = .ok (.iload_n 1, 1) := by decide +kernel
theorem dX2_isLinkedFrom_11 : decode cX2_isLinkedFrom 11 = .ok (.iload_n 3, 1) := by decide +kernel
theorem dX2_isLinkedFrom_12 : decode cX2_isLinkedFrom 12 = .ok (.invokestatic 67, 3) := by decide +kernel
theorem dX2_isLinkedFrom_15 : decode cX2_isLinkedFrom 15 = .ok (.ifCond .eq 18, 3) := by decide +kernel
theorem dX2_isLinkedFrom_18 : decode cX2_isLinkedFrom 18 = .ok (.aload_n 0, 1) := by decide +kernel
theorem dX2_isLinkedFrom_19 : decode cX2_isLinkedFrom 19 = .ok (.getfield 40, 3) := by decide +kernel
theorem dX2_isLinkedFrom_22 : decode cX2_isLinkedFrom 22 = .ok (.iload_n 3, 1) := by decide +kernel
theorem dX2_isLinkedFrom_23 : decode cX2_isLinkedFrom 23 = .ok (.iaload, 1) := by decide +kernel
theorem dX2_isLinkedFrom_24 : decode cX2_isLinkedFrom 24 = .ok (.iload_n 2, 1) := by decide +kernel
theorem dX2_isLinkedFrom_25 : decode cX2_isLinkedFrom 25 = .ok (.invokestatic 67, 3) := by decide +kernel
theorem dX2_isLinkedFrom_28 : decode cX2_isLinkedFrom 28 = .ok (.ifCond .eq 5, 3) := by decide +kernel
theorem dX2_isLinkedFrom_31 : decode cX2_isLinkedFrom 31 = .ok (.iconst 1, 1) := by decide +kernel
theorem dX2_isLinkedFrom_32 : decode cX2_isLinkedFrom 32 = .ok (.ireturn, 1) := by decide +kernel
theorem dX2_isLinkedFrom_33 : decode cX2_isLinkedFrom 33 = .ok (.iinc 3 1, 3) := by decide +kernel
theorem dX2_isLinkedFrom_36 : decode cX2_isLinkedFrom 36 = .ok (.goto (-34), 3) := by decide +kernel
theorem dX2_isLinkedFrom_39 : decode cX2_isLinkedFrom 39 = .ok (.iconst 0, 1) := by decide +kernel
theorem dX2_isLinkedFrom_40 : decode cX2_isLinkedFrom 40 = .ok (.ireturn, 1) := by decide +kernel
theorem dX2_total_0 : decode cX2_total 0 = .ok (.iconst 0, 1) := by decide +kernel
theorem dX2_total_1 : decode cX2_total 1 = .ok (.istore 4, 2) := by decide +kernel
theorem dX2_total_3 : decode cX2_total 3 = .ok (.iconst 0, 1) := by decide +kernel
theorem dX2_total_4 : decode cX2_total 4 = .ok (.istore 5, 2) := by decide +kernel
theorem dX2_total_6 : decode cX2_total 6 = .ok (.iload 5, 2) := by decide +kernel
theorem dX2_total_8 : decode cX2_total 8 = .ok (.aload_n 0, 1) := by decide +kernel
theorem dX2_total_9 : decode cX2_total 9 = .ok (.getfield 47, 3) := by decide +kernel
theorem dX2_total_12 : decode cX2_total 12 = .ok (.if_icmp .ge 45, 3) := by decide +kernel
theorem dX2_total_15 : decode cX2_total 15 = .ok (.aload_n 0, 1) := by decide +kernel
theorem dX2_total_16 : decode cX2_total 16 = .ok (.getfield 28, 3) := by decide +kernel
theorem dX2_total_19 : decode cX2_total 19 = .ok (.iload 5, 2) := by decide +kernel
theorem dX2_total_21 : decode cX2_total 21 = .ok (.iaload, 1) := by decide +kernel
theorem dX2_total_22 : decode cX2_total 22 = .ok (.iload_n 1, 1) := by decide +kernel
theorem dX2_total_23 : decode cX2_total 23 = .ok (.if_icmp .ne 28, 3) := by decide +kernel
theorem dX2_total_26 : decode cX2_total 26 = .ok (.iload_n 3, 1) := by decide +kernel
theorem dX2_total_27 : decode cX2_total 27 = .ok (.iload 5, 2) := by decide +kernel
theorem dX2_total_29 : decode cX2_total 29 = .ok (.invokestatic 67, 3) := by decide +kernel
theorem dX2_total_32 : decode cX2_total 32 = .ok (.ifCond .eq 19, 3) := by decide +kernel
theorem dX2_total_35 : decode cX2_total 35 = .ok (.iload 4, 2) := by decide +kernel
theorem dX2_total_37 : decode cX2_total 37 = .ok (.iconst 0, 1) := by decide +kernel
theorem dX2_total_38 : decode cX2_total 38 = .ok (.aload_n 0, 1) := by decide +kernel
theorem dX2_total_39 : decode cX2_total 39 = .ok (.iload 5, 2) := by decide +kernel
theorem dX2_total_41 : decode cX2_total 41 = .ok (.iload_n 2, 1) := by decide +kernel
theorem dX2_total_42 : decode cX2_total 42 = .ok (.invokevirtual 64, 3) := by decide +kernel
theorem dX2_total_45 : decode cX2_total 45 = .ok (.invokestatic 70, 3) := by decide +kernel
theorem dX2_total_48 : decode cX2_total 48 = .ok (.iadd, 1) := by decide +kernel
theorem dX2_total_49 : decode cX2_total 49 = .ok (.istore 4, 2) := by decide +kernel
theorem dX2_total_51 : decode cX2_total 51 = .ok (.iinc 5 1, 3) := by decide +kernel
theorem dX2_total_54 : decode cX2_total 54 = .ok (.goto (-48), 3) := by decide +kernel
theorem dX2_total_57 : decode cX2_total 57 = .ok (.iload 4, 2) := by decide +kernel
theorem dX2_total_59 : decode cX2_total 59 = .ok (.ireturn, 1) := by decide +kernel
theorem dX2_lineUp_0 : decode cX2_lineUp 0 = .ok (.iload_n 1, 1) := by decide +kernel
theorem dX2_lineUp_1 : decode cX2_lineUp 1 = .ok (.istore_n 3, 1) := by decide +kernel
theorem dX2_lineUp_2 : decode cX2_lineUp 2 = .ok (.iconst 0, 1) := by decide +kernel
theorem dX2_lineUp_3 : decode cX2_lineUp 3 = .ok (.istore 4, 2) := by decide +kernel
theorem dX2_lineUp_5 : decode cX2_lineUp 5 = .ok (.iload 4, 2) := by decide +kernel
theorem dX2_lineUp_7 : decode cX2_lineUp 7 = .ok (.aload_n 2, 1) := by decide +kernel
theorem dX2_lineUp_8 : decode cX2_lineUp 8 = .ok (.arraylength, 1) := by decide +kernel
theorem dX2_lineUp_9 : decode cX2_lineUp 9 = .ok (.if_icmp .ge 40, 3) := by decide +kernel
theorem dX2_lineUp_12 : decode cX2_lineUp 12 = .ok (.aload_n 0, 1) := by decide +kernel
theorem dX2_lineUp_13 : decode cX2_lineUp 13 = .ok (.iload_n 3, 1) := by decide +kernel
theorem dX2_lineUp_14 : decode cX2_lineUp 14 = .ok (.invokevirtual 75, 3) := by decide +kernel
theorem dX2_lineUp_17 : decode cX2_lineUp 17 = .ok (.istore 5, 2) := by decide +kernel
theorem dX2_lineUp_19 : decode cX2_lineUp 19 = .ok (.iload 5, 2) := by decide +kernel
theorem dX2_lineUp_21 : decode cX2_lineUp 21 = .ok (.iconst (-1), 1) := by decide +kernel
theorem dX2_lineUp_22 : decode cX2_lineUp 22 = .ok (.if_icmp .ne 6, 3) := by decide +kernel
theorem dX2_lineUp_25 : decode cX2_lineUp 25 = .ok (.iload 4, 2) := by decide +kernel
theorem dX2_lineUp_27 : decode cX2_lineUp 27 = .ok (.ireturn, 1) := by decide +kernel
theorem dX2_lineUp_28 : decode cX2_lineUp 28 = .ok (.aload_n 2, 1) := by decide +kernel
theorem dX2_lineUp_29 : decode cX2_lineUp 29 = .ok (.iload 4, 2) := by decide +kernel
theorem dX2_lineUp_31 : decode cX2_lineUp 31 = .ok (.iload 5, 2) := by decide +kernel
theorem dX2_lineUp_33 : decode cX2_lineUp 33 = .ok (.iastore, 1) := by decide +kernel
theorem dX2_lineUp_34 : decode cX2_lineUp 34 = .ok (.iload_n 3, 1) := by decide +kernel
theorem dX2_lineUp_35 : decode cX2_lineUp 35 = .ok (.iconst 1, 1) := by decide +kernel
theorem dX2_lineUp_36 : decode cX2_lineUp 36 = .ok (.iload 5, 2) := by decide +kernel
theorem dX2_lineUp_38 : decode cX2_lineUp 38 = .ok (.ishl, 1) := by decide +kernel
theorem dX2_lineUp_39 : decode cX2_lineUp 39 = .ok (.iconst (-1), 1) := by decide +kernel
theorem dX2_lineUp_40 : decode cX2_lineUp 40 = .ok (.ixor, 1) := by decide +kernel
theorem dX2_lineUp_41 : decode cX2_lineUp 41 = .ok (.iand, 1) := by decide +kernel
theorem dX2_lineUp_42 : decode cX2_lineUp 42 = .ok (.istore_n 3, 1) := by decide +kernel
theorem dX2_lineUp_43 : decode cX2_lineUp 43 = .ok (.iinc 4 1, 3) := by decide +kernel
theorem dX2_lineUp_46 : decode cX2_lineUp 46 = .ok (.goto (-41), 3) := by decide +kernel
theorem dX2_lineUp_49 : decode cX2_lineUp 49 = .ok (.aload_n 2, 1) := by decide +kernel
theorem dX2_lineUp_50 : decode cX2_lineUp 50 = .ok (.arraylength, 1) := by decide +kernel
theorem dX2_lineUp_51 : decode cX2_lineUp 51 = .ok (.ireturn, 1) := by decide +kernel
theorem dX2_firstFree_0 : decode cX2_firstFree 0 = .ok (.iconst 0, 1) := by decide +kernel
theorem dX2_firstFree_1 : decode cX2_firstFree 1 = .ok (.istore_n 2, 1) := by decide +kernel
theorem dX2_firstFree_2 : decode cX2_firstFree 2 = .ok (.iload_n 2, 1) := by decide +kernel
theorem dX2_firstFree_3 : decode cX2_firstFree 3 = .ok (.aload_n 0, 1) := by decide +kernel
theorem dX2_firstFree_4 : decode cX2_firstFree 4 = .ok (.getfield 47, 3) := by decide +kernel
theorem dX2_firstFree_7 : decode cX2_firstFree 7 = .ok (.if_icmp .ge 36, 3) := by decide +kernel
theorem dX2_firstFree_10 : decode cX2_firstFree 10 = .ok (.iload_n 1, 1) := by decide +kernel
theorem dX2_firstFree_11 : decode cX2_firstFree 11 = .ok (.iload_n 2, 1) := by decide +kernel
theorem dX2_firstFree_12 : decode cX2_firstFree 12 = .ok (.invokestatic 67, 3) := by decide +kernel
theorem dX2_firstFree_15 : decode cX2_firstFree 15 = .ok (.ifCond .eq 22, 3) := by decide +kernel
theorem dX2_firstFree_18 : decode cX2_firstFree 18 = .ok (.aload_n 0, 1) := by decide +kernel
theorem dX2_firstFree_19 : decode cX2_firstFree 19 = .ok (.getfield 40, 3) := by decide +kernel
theorem dX2_firstFree_22 : decode cX2_firstFree 22 = .ok (.iload_n 2, 1) := by decide +kernel
theorem dX2_firstFree_23 : decode cX2_firstFree 23 = .ok (.iaload, 1) := by decide +kernel
theorem dX2_firstFree_24 : decode cX2_firstFree 24 = .ok (.iload_n 1, 1) := by decide +kernel
theorem dX2_firstFree_25 : decode cX2_firstFree 25 = .ok (.iand, 1) := by decide +kernel
theorem dX2_firstFree_26 : decode cX2_firstFree 26 = .ok (.iconst 1, 1) := by decide +kernel
theorem dX2_firstFree_27 : decode cX2_firstFree 27 = .ok (.iload_n 2, 1) := by decide +kernel
theorem dX2_firstFree_28 : decode cX2_firstFree 28 = .ok (.ishl, 1) := by decide +kernel
theorem dX2_firstFree_29 : decode cX2_firstFree 29 = .ok (.iconst (-1), 1) := by decide +kernel
theorem dX2_firstFree_30 : decode cX2_firstFree 30 = .ok (.ixor, 1) := by decide +kernel
theorem dX2_firstFree_31 : decode cX2_firstFree 31 = .ok (.iand, 1) := by decide +kernel
theorem dX2_firstFree_32 : decode cX2_firstFree 32 = .ok (.ifCond .ne 5, 3) := by decide +kernel
theorem dX2_firstFree_35 : decode cX2_firstFree 35 = .ok (.iload_n 2, 1) := by decide +kernel
theorem dX2_firstFree_36 : decode cX2_firstFree 36 = .ok (.ireturn, 1) := by decide +kernel
theorem dX2_firstFree_37 : decode cX2_firstFree 37 = .ok (.iinc 2 1, 3) := by decide +kernel
theorem dX2_firstFree_40 : decode cX2_firstFree 40 = .ok (.goto (-38), 3) := by decide +kernel
theorem dX2_firstFree_43 : decode cX2_firstFree 43 = .ok (.iconst (-1), 1) := by decide +kernel
theorem dX2_firstFree_44 : decode cX2_firstFree 44 = .ok (.ireturn, 1) := by decide +kernel
theorem dX2_findLinks_0 : decode cX2_findLinks 0 = .ok (.iconst 0, 1) := by decide +kernel
theorem dX2_findLinks_1 : decode cX2_findLinks 1 = .ok (.istore_n 1, 1) := by decide +kernel
theorem dX2_findLinks_2 : decode cX2_findLinks 2 = .ok (.iload_n 1, 1) := by decide +kernel
theorem dX2_findLinks_3 : decode cX2_findLinks 3 = .ok (.aload_n 0, 1) := by decide +kernel
theorem dX2_findLinks_4 : decode cX2_findLinks 4 = .ok (.getfield 47, 3) := by decide +kernel
theorem dX2_findLinks_7 : decode cX2_findLinks 7 = .ok (.if_icmp .ge 74, 3) := by decide +kernel
theorem dX2_findLinks_10 : decode cX2_findLinks 10 = .ok (.aload_n 0, 1) := by decide +kernel
theorem dX2_findLinks_11 : decode cX2_findLinks 11 = .ok (.getfield 40, 3) := by decide +kernel
theorem dX2_findLinks_14 : decode cX2_findLinks 14 = .ok (.iload_n 1, 1) := by decide +kernel
theorem dX2_findLinks_15 : decode cX2_findLinks 15 = .ok (.iconst 0, 1) := by decide +kernel
theorem dX2_findLinks_16 : decode cX2_findLinks 16 = .ok (.iastore, 1) := by decide +kernel
theorem dX2_findLinks_17 : decode cX2_findLinks 17 = .ok (.iconst 0, 1) := by decide +kernel
theorem dX2_findLinks_18 : decode cX2_findLinks 18 = .ok (.istore_n 2, 1) := by decide +kernel
theorem dX2_findLinks_19 : decode cX2_findLinks 19 = .ok (.iload_n 2, 1) := by decide +kernel
theorem dX2_findLinks_20 : decode cX2_findLinks 20 = .ok (.iconst 5, 1) := by decide +kernel
theorem dX2_findLinks_21 : decode cX2_findLinks 21 = .ok (.if_icmp .ge 54, 3) := by decide +kernel
theorem dX2_findLinks_24 : decode cX2_findLinks 24 = .ok (.aload_n 0, 1) := by decide +kernel
theorem dX2_findLinks_25 : decode cX2_findLinks 25 = .ok (.aload_n 0, 1) := by decide +kernel
theorem dX2_findLinks_26 : decode cX2_findLinks 26 = .ok (.getfield 28, 3) := by decide +kernel
theorem dX2_findLinks_29 : decode cX2_findLinks 29 = .ok (.iload_n 1, 1) := by decide +kernel
theorem dX2_findLinks_30 : decode cX2_findLinks 30 = .ok (.iaload, 1) := by decide +kernel
theorem dX2_findLinks_31 : decode cX2_findLinks 31 = .ok (.iload_n 2, 1) := by decide +kernel
theorem dX2_findLinks_32 : decode cX2_findLinks 32 = .ok (.invokevirtual 79, 3) := by decide +kernel
theorem dX2_findLinks_35 : decode cX2_findLinks 35 = .ok (.iconst (-1), 1) := by decide +kernel
theorem dX2_findLinks_36 : decode cX2_findLinks 36 = .ok (.if_icmp .eq 33, 3) := by decide +kernel
theorem dX2_findLinks_39 : decode cX2_findLinks 39 = .ok (.aload_n 0, 1) := by decide +kernel
theorem dX2_findLinks_40 : decode cX2_findLinks 40 = .ok (.aload_n 0, 1) := by decide +kernel
theorem dX2_findLinks_41 : decode cX2_findLinks 41 = .ok (.iload_n 1, 1) := by decide +kernel
theorem dX2_findLinks_42 : decode cX2_findLinks 42 = .ok (.iload_n 2, 1) := by decide +kernel
theorem dX2_findLinks_43 : decode cX2_findLinks 43 = .ok (.invokevirtual 64, 3) := by decide +kernel
theorem dX2_findLinks_46 : decode cX2_findLinks 46 = .ok (.invokevirtual 82, 3) := by decide +kernel
theorem dX2_findLinks_49 : decode cX2_findLinks 49 = .ok (.ifCond .eq 20, 3) := by decide +kernel
theorem dX2_findLinks_52 : decode cX2_findLinks 52 = .ok (.aload_n 0, 1) := by decide +kernel
theorem dX2_findLinks_53 : decode cX2_findLinks 53 = .ok (.getfield 40, 3) := by decide +kernel
theorem dX2_findLinks_56 : decode cX2_findLinks 56 = .ok (.iload_n 1, 1) := by decide +kernel
theorem dX2_findLinks_57 : decode cX2_findLinks 57 = .ok (.dup2, 1) := by decide +kernel
theorem dX2_findLinks_58 : decode cX2_findLinks 58 = .ok (.iaload, 1) := by decide +kernel
theorem dX2_findLinks_59 : decode cX2_findLinks 59 = .ok (.iconst 1, 1) := by decide +kernel
theorem dX2_findLinks_60 : decode cX2_findLinks 60 = .ok (.aload_n 0, 1) := by decide +kernel
theorem dX2_findLinks_61 : decode cX2_findLinks 61 = .ok (.iload_n 1, 1) := by decide +kernel
theorem dX2_findLinks_62 : decode cX2_findLinks 62 = .ok (.iload_n 2, 1) := by decide +kernel
theorem dX2_findLinks_63 : decode cX2_findLinks 63 = .ok (.invokevirtual 64, 3) := by decide +kernel
theorem dX2_findLinks_66 : decode cX2_findLinks 66 = .ok (.ishl, 1) := by decide +kernel
theorem dX2_findLinks_67 : decode cX2_findLinks 67 = .ok (.ior, 1) := by decide +kernel
theorem dX2_findLinks_68 : decode cX2_findLinks 68 = .ok (.iastore, 1) := by decide +kernel
theorem dX2_findLinks_69 : decode cX2_findLinks 69 = .ok (.iinc 2 1, 3) := by decide +kernel
theorem dX2_findLinks_72 : decode cX2_findLinks 72 = .ok (.goto (-53), 3) := by decide +kernel
theorem dX2_findLinks_75 : decode cX2_findLinks 75 = .ok (.iinc 1 1, 3) := by decide +kernel
theorem dX2_findLinks_78 : decode cX2_findLinks 78 = .ok (.goto (-76), 3) := by decide +kernel
theorem dX2_findLinks_81 : decode cX2_findLinks 81 = .ok (.return_, 1) := by decide +kernel
theorem dJ11_isValidCodePoint_9a6ad_0 : decode cJ11_isValidCodePoint_9a6ad 0 = .ok (.iload_n 0, 1) := by decide +kernel
theorem dJ11_isValidCodePoint_9a6ad_1 : decode cJ11_isValidCodePoint_9a6ad 1 = .ok (.bipush 16, 2) := by decide +kernel
theorem dJ11_isValidCodePoint_9a6ad_3 : decode cJ11_isValidCodePoint_9a6ad 3 = .ok (.iushr, 1) := by decide +kernel
theorem dJ11_isValidCodePoint_9a6ad_4 : decode cJ11_isValidCodePoint_9a6ad 4 = .ok (.istore_n 1, 1) := by decide +kernel
theorem dJ11_isValidCodePoint_9a6ad_5 : decode cJ11_isValidCodePoint_9a6ad 5 = .ok (.iload_n 1, 1) := by decide +kernel
theorem dJ11_isValidCodePoint_9a6ad_6 : decode cJ11_isValidCodePoint_9a6ad 6 = .ok (.bipush 17, 2) := by decide +kernel
theorem dJ11_isValidCodePoint_9a6ad_8 : decode cJ11_isValidCodePoint_9a6ad 8 = .ok (.if_icmp .ge 7, 3) := by decide +kernel
theorem dJ11_isValidCodePoint_9a6ad_11 : decode cJ11_isValidCodePoint_9a6ad 11 = .ok (.iconst 1, 1) := by decide +kernel
theorem dJ11_isValidCodePoint_9a6ad_12 : decode cJ11_isValidCodePoint_9a6ad 12 = .ok (.goto 4, 3) := by decide +kernel
theorem dJ11_isValidCodePoint_9a6ad_15 : decode cJ11_isValidCodePoint_9a6ad 15 = .ok (.iconst 0, 1) := by decide +kernel
theorem dJ11_isValidCodePoint_9a6ad_16 : decode cJ11_isValidCodePoint_9a6ad 16 = .ok (.ireturn, 1) := by decide +kernel
theorem dJ11_highSurrogate_5068e_0 : decode cJ11_highSurrogate_5068e 0 = .ok (.iload_n 0, 1) := by decide +kernel
theorem dJ11_highSurrogate_5068e_1 : decode cJ11_highSurrogate_5068e 1 = .ok (.bipush 10, 2) := by decide +kernel
theorem dJ11_highSurrogate_5068e_3 : decode cJ11_highSurrogate_5068e 3 = .ok (.iushr, 1) := by decide +kernel
theorem dJ11_highSurrogate_5068e_4 : decode cJ11_highSurrogate_5068e 4 = .ok (.ldc 110, 2) := by decide +kernel
theorem dJ11_highSurrogate_5068e_6 : decode cJ11_highSurrogate_5068e 6 = .ok (.iadd, 1) := by decide +kernel
theorem dJ11_highSurrogate_5068e_7 : decode cJ11_highSurrogate_5068e 7 = .ok (.i2c, 1) := by decide +kernel
theorem dJ11_highSurrogate_5068e_8 : decode cJ11_highSurrogate_5068e 8 = .ok (.ireturn, 1) := by decide +kernel
theorem dJ11_lowSurrogate_5068e_0 : decode cJ11_lowSurrogate_5068e 0 = .ok (.iload_n 0, 1) := by decide +kernel
theorem dJ11_lowSurrogate_5068e_1 : decode cJ11_lowSurrogate_5068e 1 = .ok (.sipush 1023, 3) := by decide +kernel
theorem dJ11_lowSurrogate_5068e_4 : decode cJ11_lowSurrogate_5068e 4 = .ok (.iand, 1) := by decide +kernel
theorem dJ11_lowSurrogate_5068e_5 : decode cJ11_lowSurrogate_5068e 5 = .ok (.ldc 76, 2) := by decide +kernel
theorem dJ11_lowSurrogate_5068e_7 : decode cJ11_lowSurrogate_5068e 7 = .ok (.iadd, 1) := by decide +kernel
theorem dJ11_lowSurrogate_5068e_8 : decode cJ11_lowSurrogate_5068e 8 = .ok (.i2c, 1) := by decide +kernel
theorem dJ11_lowSurrogate_5068e_9 : decode cJ11_lowSurrogate_5068e 9 = .ok (.ireturn, 1) := by decide +kernel
theorem dJ6_bitCount_0f7a4_0 : decode cJ6_bitCount_0f7a4 0 = .ok (.iload_n 0, 1) := by decide +kernel
theorem dJ6_bitCount_0f7a4_1 : decode cJ6_bitCount_0f7a4 1 = .ok (.iload_n 0, 1) := by decide +kernel
theorem dJ6_bitCount_0f7a4_2 : decode cJ6_bitCount_0f7a4 2 = .ok (.iconst 1, 1) := by decide +kernel
theorem dJ6_bitCount_0f7a4_3 : decode cJ6_bitCount_0f7a4 3 = .ok (.iushr, 1) := by decide +kernel
theorem dJ6_bitCount_0f7a4_4 : decode cJ6_bitCount_0f7a4 4 = .ok (.ldc_w 265, 3) := by decide +kernel
theorem dJ6_bitCount_0f7a4_7 : decode cJ6_bitCount_0f7a4 7 = .ok (.iand, 1) := by decide +kernel
theorem dJ6_bitCount_0f7a4_8 : decode cJ6_bitCount_0f7a4 8 = .ok (.isub, 1) := by decide +kernel
theorem dJ6_bitCount_0f7a4_9 : decode cJ6_bitCount_0f7a4 9 = .ok (.istore_n 0, 1) := by decide +kernel
theorem dJ6_bitCount_0f7a4_10 : decode cJ6_bitCount_0f7a4 10 = .ok (.iload_n 0, 1) := by decide +kernel
theorem dJ6_bitCount_0f7a4_11 : decode cJ6_bitCount_0f7a4 11 = .ok (.ldc_w 266, 3) := by decide +kernel
theorem dJ6_bitCount_0f7a4_14 : decode cJ6_bitCount_0f7a4 14 = .ok (.iand, 1) := by decide +kernel
theorem dJ6_bitCount_0f7a4_15 : decode cJ6_bitCount_0f7a4 15 = .ok (.iload_n 0, 1) := by decide +kernel
theorem dJ6_bitCount_0f7a4_16 : decode cJ6_bitCount_0f7a4 16 = .ok (.iconst 2, 1) := by decide +kernel
theorem dJ6_bitCount_0f7a4_17 : decode cJ6_bitCount_0f7a4 17 = .ok (.iushr, 1) := by decide +kernel
theorem dJ6_bitCount_0f7a4_18 : decode cJ6_bitCount_0f7a4 18 = .ok (.ldc_w 266, 3) := by decide +kernel
theorem dJ6_bitCount_0f7a4_21 : decode cJ6_bitCount_0f7a4 21 = .ok (.iand, 1) := by decide +kernel
theorem dJ6_bitCount_0f7a4_22 : decode cJ6_bitCount_0f7a4 22 = .ok (.iadd, 1) := by decide +kernel
theorem dJ6_bitCount_0f7a4_23 : decode cJ6_bitCount_0f7a4 23 = .ok (.istore_n 0, 1) := by decide +kernel
theorem dJ6_bitCount_0f7a4_24 : decode cJ6_bitCount_0f7a4 24 = .ok (.iload_n 0, 1) := by decide +kernel
theorem dJ6_bitCount_0f7a4_25 : decode cJ6_bitCount_0f7a4 25 = .ok (.iload_n 0, 1) := by decide +kernel
theorem dJ6_bitCount_0f7a4_26 : decode cJ6_bitCount_0f7a4 26 = .ok (.iconst 4, 1) := by decide +kernel
theorem dJ6_bitCount_0f7a4_27 : decode cJ6_bitCount_0f7a4 27 = .ok (.iushr, 1) := by decide +kernel
theorem dJ6_bitCount_0f7a4_28 : decode cJ6_bitCount_0f7a4 28 = .ok (.iadd, 1) := by decide +kernel
theorem dJ6_bitCount_0f7a4_29 : decode cJ6_bitCount_0f7a4 29 = .ok (.ldc_w 267, 3) := by decide +kernel
theorem dJ6_bitCount_0f7a4_32 : decode cJ6_bitCount_0f7a4 32 = .ok (.iand, 1) := by decide +kernel
theorem dJ6_bitCount_0f7a4_33 : decode cJ6_bitCount_0f7a4 33 = .ok (.istore_n 0, 1) := by decide +kernel
theorem dJ6_bitCount_0f7a4_34 : decode cJ6_bitCount_0f7a4 34 = .ok (.iload_n 0, 1) := by decide +kernel
theorem dJ6_bitCount_0f7a4_35 : decode cJ6_bitCount_0f7a4 35 = .ok (.iload_n 0, 1) := by decide +kernel
theorem dJ6_bitCount_0f7a4_36 : decode cJ6_bitCount_0f7a4 36 = .ok (.bipush 8, 2) := by decide +kernel
theorem dJ6_bitCount_0f7a4_38 : decode cJ6_bitCount_0f7a4 38 = .ok (.iushr, 1) := by decide +kernel
theorem dJ6_bitCount_0f7a4_39 : decode cJ6_bitCount_0f7a4 39 = .ok (.iadd, 1) := by decide +kernel
theorem dJ6_bitCount_0f7a4_40 : decode cJ6_bitCount_0f7a4 40 = .ok (.istore_n 0, 1) := by decide +kernel
theorem dJ6_bitCount_0f7a4_41 : decode cJ6_bitCount_0f7a4 41 = .ok (.iload_n 0, 1) := by decide +kernel
theorem dJ6_bitCount_0f7a4_42 : decode cJ6_bitCount_0f7a4 42 = .ok (.iload_n 0, 1) := by decide +kernel
theorem dJ6_bitCount_0f7a4_43 : decode cJ6_bitCount_0f7a4 43 = .ok (.bipush 16, 2) := by decide +kernel
theorem dJ6_bitCount_0f7a4_45 : decode cJ6_bitCount_0f7a4 45 = .ok (.iushr, 1) := by decide +kernel
theorem dJ6_bitCount_0f7a4_46 : decode cJ6_bitCount_0f7a4 46 = .ok (.iadd, 1) := by decide +kernel
theorem dJ6_bitCount_0f7a4_47 : decode cJ6_bitCount_0f7a4 47 = .ok (.istore_n 0, 1) := by decide +kernel
theorem dJ6_bitCount_0f7a4_48 : decode cJ6_bitCount_0f7a4 48 = .ok (.iload_n 0, 1) := by decide +kernel
theorem dJ6_bitCount_0f7a4_49 : decode cJ6_bitCount_0f7a4 49 = .ok (.bipush 63, 2) := by decide +kernel
theorem dJ6_bitCount_0f7a4_51 : decode cJ6_bitCount_0f7a4 51 = .ok (.iand, 1) := by decide +kernel
theorem dJ6_bitCount_0f7a4_52 : decode cJ6_bitCount_0f7a4 52 = .ok (.ireturn, 1) := by decide +kernel
theorem dJ9_max_7cf53_0 : decode cJ9_max_7cf53 0 = .ok (.iload_n 0, 1) := by decide +kernel
theorem dJ9_max_7cf53_1 : decode cJ9_max_7cf53 1 = .ok (.iload_n 1, 1) := by decide +kernel
theorem dJ9_max_7cf53_2 : decode cJ9_max_7cf53 2 = .ok (.if_icmp .lt 7, 3) := by decide +kernel
theorem dJ9_max_7cf53_5 : decode cJ9_max_7cf53 5 = .ok (.iload_n 0, 1) := by decide +kernel
theorem dJ9_max_7cf53_6 : decode cJ9_max_7cf53 6 = .ok (.goto 4, 3) := by decide +kernel
theorem dJ9_max_7cf53_9 : decode cJ9_max_7cf53 9 = .ok (.iload_n 1, 1) := by decide +kernel
theorem dJ9_max_7cf53_10 : decode cJ9_max_7cf53 10 = .ok (.ireturn, 1) := by decide +kernel
theorem dJ9_min_7cf53_0 : decode cJ9_min_7cf53 0 = .ok (.iload_n 0, 1) := by decide +kernel
theorem dJ9_min_7cf53_1 : decode cJ9_min_7cf53 1 = .ok (.iload_n 1, 1) := by decide +kernel
theorem dJ9_min_7cf53_2 : decode cJ9_min_7cf53 2 = .ok (.if_icmp .gt 7, 3) := by decide +kernel
theorem dJ9_min_7cf53_5 : decode cJ9_min_7cf53 5 = .ok (.iload_n 0, 1) := by decide +kernel
theorem dJ9_min_7cf53_6 : decode cJ9_min_7cf53 6 = .ok (.goto 4, 3) := by decide +kernel
theorem dJ9_min_7cf53_9 : decode cJ9_min_7cf53 9 = .ok (.iload_n 1, 1) := by decide +kernel
theorem dJ9_min_7cf53_10 : decode cJ9_min_7cf53 10 = .ok (.ireturn, 1) := by decide +kernel
theorem dJ0_length_8abf5_0 : decode cJ0_length_8abf5 0 = .ok (.aload_n 0, 1) := by decide +kernel
theorem dJ0_length_8abf5_1 : decode cJ0_length_8abf5 1 = .ok (.getfield 9, 3) := by decide +kernel
theorem dJ0_length_8abf5_4 : decode cJ0_length_8abf5 4 = .ok (.arraylength, 1) := by decide +kernel
theorem dJ0_length_8abf5_5 : decode cJ0_length_8abf5 5 = .ok (.aload_n 0, 1) := by decide +kernel
theorem dJ0_length_8abf5_6 : decode cJ0_length_8abf5 6 = .ok (.invokevirtual 335, 3) := by decide +kernel
theorem dJ0_length_8abf5_9 : decode cJ0_length_8abf5 9 = .ok (.ishr, 1) := by decide +kernel
theorem dJ0_length_8abf5_10 : decode cJ0_length_8abf5 10 = .ok (.ireturn, 1) := by decide +kernel
theorem dJ0_charAt_5068e_0 : decode cJ0_charAt_5068e 0 = .ok (.aload_n 0, 1) := by decide +kernel
theorem dJ0_charAt_5068e_1 : decode cJ0_charAt_5068e 1 = .ok (.invokevirtual 492, 3) := by decide +kernel
theorem dJ0_charAt_5068e_4 : decode cJ0_charAt_5068e 4 = .ok (.ifCond .eq 12, 3) := by decide +kernel
theorem dJ0_charAt_5068e_7 : decode cJ0_charAt_5068e 7 = .ok (.aload_n 0, 1) := by decide +kernel
theorem dJ0_charAt_5068e_8 : decode cJ0_charAt_5068e 8 = .ok (.getfield 9, 3) := by decide +kernel
theorem dJ0_charAt_5068e_11 : decode cJ0_charAt_5068e 11 = .ok (.iload_n 1, 1) := by decide +kernel
theorem dJ0_charAt_5068e_12 : decode cJ0_charAt_5068e 12 = .ok (.invokestatic 495, 3) := by decide +kernel
theorem dJ0_charAt_5068e_15 : decode cJ0_charAt_5068e 15 = .ok (.ireturn, 1) := by decide +kernel
theorem dJ0_charAt_5068e_16 : decode cJ0_charAt_5068e 16 = .ok (.aload_n 0, 1) := by decide +kernel
theorem dJ0_charAt_5068e_17 : decode cJ0_charAt_5068e 17 = .ok (.getfield 9, 3) := by decide +kernel
theorem dJ0_charAt_5068e_20 : decode cJ0_charAt_5068e 20 = .ok (.iload_n 1, 1) := by decide +kernel
theorem dJ0_charAt_5068e_21 : decode cJ0_charAt_5068e 21 = .ok (.invokestatic 498, 3) := by decide +kernel
theorem dJ0_charAt_5068e_24 : decode cJ0_charAt_5068e 24 = .ok (.ireturn, 1) := by decide +kernel
theorem dJ0_indexOf_0f7a4_0 : decode cJ0_indexOf_0f7a4 0 = .ok (.aload_n 0, 1) := by decide +kernel
theorem dJ0_indexOf_0f7a4_1 : decode cJ0_indexOf_0f7a4 1 = .ok (.iload_n 1, 1) := by decide +kernel
theorem dJ0_indexOf_0f7a4_2 : decode cJ0_indexOf_0f7a4 2 = .ok (.iconst 0, 1) := by decide +kernel
theorem dJ0_indexOf_0f7a4_3 : decode cJ0_indexOf_0f7a4 3 = .ok (.invokevirtual 633, 3) := by decide +kernel
theorem dJ0_indexOf_0f7a4_6 : decode cJ0_indexOf_0f7a4 6 = .ok (.ireturn, 1) := by decide +kernel
theorem dJ0_indexOf_7cf53_0 : decode cJ0_indexOf_7cf53 0 = .ok (.aload_n 0, 1) := by decide +kernel
theorem dJ0_indexOf_7cf53_1 : decode cJ0_indexOf_7cf53 1 = .ok (.invokevirtual 492, 3) := by decide +kernel
theorem dJ0_indexOf_7cf53_4 : decode cJ0_indexOf_7cf53 4 = .ok (.ifCond .eq 19, 3) := by decide +kernel
theorem dJ0_indexOf_7cf53_7 : decode cJ0_indexOf_7cf53 7 = .ok (.aload_n 0, 1) := by decide +kernel
theorem dJ0_indexOf_7cf53_8 : decode cJ0_indexOf_7cf53 8 = .ok (.getfield 9, 3) := by decide +kernel
theorem dJ0_indexOf_7cf53_11 : decode cJ0_indexOf_7cf53 11 = .ok (.iload_n 1, 1) := by decide +kernel
theorem dJ0_indexOf_7cf53_12 : decode cJ0_indexOf_7cf53 12 = .ok (.iload_n 2, 1) := by decide +kernel
theorem dJ0_indexOf_7cf53_13 : decode cJ0_indexOf_7cf53 13 = .ok (.aload_n 0, 1) := by decide +kernel
theorem dJ0_indexOf_7cf53_14 : decode cJ0_indexOf_7cf53 14 = .ok (.invokevirtual 505, 3) := by decide +kernel
theorem dJ0_indexOf_7cf53_17 : decode cJ0_indexOf_7cf53 17 = .ok (.invokestatic 637, 3) := by decide +kernel
theorem dJ0_indexOf_7cf53_20 : decode cJ0_indexOf_7cf53 20 = .ok (.goto 16, 3) := by decide +kernel
theorem dJ0_indexOf_7cf53_23 : decode cJ0_indexOf_7cf53 23 = .ok (.aload_n 0, 1) := by decide +kernel
theorem dJ0_indexOf_7cf53_24 : decode cJ0_indexOf_7cf53 24 = .ok (.getfield 9, 3) := by decide +kernel
theorem dJ0_indexOf_7cf53_27 : decode cJ0_indexOf_7cf53 27 = .ok (.iload_n 1, 1) := by decide +kernel
theorem dJ0_indexOf_7cf53_28 : decode cJ0_indexOf_7cf53 28 = .ok (.iload_n 2, 1) := by decide +kernel
theorem dJ0_indexOf_7cf53_29 : decode cJ0_indexOf_7cf53 29 = .ok (.aload_n 0, 1) := by decide +kernel
theorem dJ0_indexOf_7cf53_30 : decode cJ0_indexOf_7cf53 30 = .ok (.invokevirtual 505, 3) := by decide +kernel
theorem dJ0_indexOf_7cf53_33 : decode cJ0_indexOf_7cf53 33 = .ok (.invokestatic 640, 3) := by decide +kernel
theorem dJ0_indexOf_7cf53_36 : decode cJ0_indexOf_7cf53 36 = .ok (.ireturn, 1) := by decide +kernel
theorem dJ0_coder_7d493_0 : decode cJ0_coder_7d493 0 = .ok (.getstatic 38, 3) := by decide +kernel
theorem dJ0_coder_7d493_3 : decode cJ0_coder_7d493 3 = .ok (.ifCond .eq 10, 3) := by decide +kernel
theorem dJ0_coder_7d493_6 : decode cJ0_coder_7d493 6 = .ok (.aload_n 0, 1) := by decide +kernel
theorem dJ0_coder_7d493_7 : decode cJ0_coder_7d493 7 = .ok (.getfield 15, 3) := by decide +kernel
theorem dJ0_coder_7d493_10 : decode cJ0_coder_7d493 10 = .ok (.goto 4, 3) := by decide +kernel
theorem dJ0_coder_7d493_13 : decode cJ0_coder_7d493 13 = .ok (.iconst 1, 1) := by decide +kernel
theorem dJ0_coder_7d493_14 : decode cJ0_coder_7d493 14 = .ok (.ireturn, 1) := by decide +kernel
theorem dJ0_isLatin1_aae02_0 : decode cJ0_isLatin1_aae02 0 = .ok (.getstatic 38, 3) := by decide +kernel
theorem dJ0_isLatin1_aae02_3 : decode cJ0_isLatin1_aae02 3 = .ok (.ifCond .eq 14, 3) := by decide +kernel
theorem dJ0_isLatin1_aae02_6 : decode cJ0_isLatin1_aae02 6 = .ok (.aload_n 0, 1) := by decide +kernel
theorem dJ0_isLatin1_aae02_7 : decode cJ0_isLatin1_aae02 7 = .ok (.getfield 15, 3) := by decide +kernel
theorem dJ0_isLatin1_aae02_10 : decode cJ0_isLatin1_aae02 10 = .ok (.ifCond .ne 7, 3) := by decide +kernel
theorem dJ0_isLatin1_aae02_13 : decode cJ0_isLatin1_aae02 13 = .ok (.iconst 1, 1) := by decide +kernel
theorem dJ0_isLatin1_aae02_14 : decode cJ0_isLatin1_aae02 14 = .ok (.goto 4, 3) := by decide +kernel
theorem dJ0_isLatin1_aae02_17 : decode cJ0_isLatin1_aae02 17 = .ok (.iconst 0, 1) := by decide +kernel
theorem dJ0_isLatin1_aae02_18 : decode cJ0_isLatin1_aae02 18 = .ok (.ireturn, 1) := by decide +kernel
theorem dJ0_checkIndex_df160_0 : decode cJ0_checkIndex_df160 0 = .ok (.iload_n 0, 1) := by decide +kernel
theorem dJ0_checkIndex_df160_1 : decode cJ0_checkIndex_df160 1 = .ok (.iload_n 1, 1) := by decide +kernel
theorem dJ0_checkIndex_df160_2 : decode cJ0_checkIndex_df160 2 = .ok (.getstatic 1053, 3) := by decide +kernel
theorem dJ0_checkIndex_df160_5 : decode cJ0_checkIndex_df160 5 = .ok (.invokestatic 1059, 3) := by decide +kernel
theorem dJ0_checkIndex_df160_8 : decode cJ0_checkIndex_df160 8 = .ok (.pop, 1) := by decide +kernel
theorem dJ0_checkIndex_df160_9 : decode cJ0_checkIndex_df160 9 = .ok (.return_, 1) := by decide +kernel
theorem dJ0_checkBoundsBeginEnd_23922_0 : decode cJ0_checkBoundsBeginEnd_23922 0 = .ok (.iload_n 0, 1) := by decide +kernel
theorem dJ0_checkBoundsBeginEnd_23922_1 : decode cJ0_checkBoundsBeginEnd_23922 1 = .ok (.iload_n 1, 1) := by decide +kernel
theorem dJ0_checkBoundsBeginEnd_23922_2 : decode cJ0_checkBoundsBeginEnd_23922 2 = .ok (.iload_n 2, 1) := by decide +kernel
theorem dJ0_checkBoundsBeginEnd_23922_3 : decode cJ0_checkBoundsBeginEnd_23922 3 = .ok (.getstatic 1053, 3) := by decide +kernel
theorem dJ0_checkBoundsBeginEnd_23922_6 : decode cJ0_checkBoundsBeginEnd_23922 6 = .ok (.invokestatic 1062, 3) := by decide +kernel
theorem dJ0_checkBoundsBeginEnd_23922_9 : decode cJ0_checkBoundsBeginEnd_23922 9 = .ok (.pop, 1) := by decide +kernel
theorem dJ0_checkBoundsBeginEnd_23922_10 : decode cJ0_checkBoundsBeginEnd_23922 10 = .ok (.return_, 1) := by decide +kernel
theorem dJ1_charAt_3b067_0 : decode cJ1_charAt_3b067 0 = .ok (.iload_n 1, 1) := by decide +kernel
theorem dJ1_charAt_3b067_1 : decode cJ1_charAt_3b067 1 = .ok (.aload_n 0, 1) := by decide +kernel
theorem dJ1_charAt_3b067_2 : decode cJ1_charAt_3b067 2 = .ok (.arraylength, 1) := by decide +kernel
theorem dJ1_charAt_3b067_3 : decode cJ1_charAt_3b067 3 = .ok (.invokestatic 9, 3) := by decide +kernel
theorem dJ1_charAt_3b067_6 : decode cJ1_charAt_3b067 6 = .ok (.aload_n 0, 1) := by decide +kernel
theorem dJ1_charAt_3b067_7 : decode cJ1_charAt_3b067 7 = .ok (.iload_n 1, 1) := by decide +kernel
theorem dJ1_charAt_3b067_8 : decode cJ1_charAt_3b067 8 = .ok (.baload, 1) := by decide +kernel
theorem dJ1_charAt_3b067_9 : decode cJ1_charAt_3b067 9 = .ok (.sipush 255, 3) := by decide +kernel
theorem dJ1_charAt_3b067_12 : decode cJ1_charAt_3b067 12 = .ok (.iand, 1) := by decide +kernel
theorem dJ1_charAt_3b067_13 : decode cJ1_charAt_3b067 13 = .ok (.i2c, 1) := by decide +kernel
theorem dJ1_charAt_3b067_14 : decode cJ1_charAt_3b067 14 = .ok (.ireturn, 1) := by decide +kernel
theorem dJ1_canEncode_9a6ad_0 : decode cJ1_canEncode_9a6ad 0 = .ok (.iload_n 0, 1) := by decide +kernel
theorem dJ1_canEncode_9a6ad_1 : decode cJ1_canEncode_9a6ad 1 = .ok (.ifCond .lt 14, 3) := by decide +kernel
theorem dJ1_canEncode_9a6ad_4 : decode cJ1_canEncode_9a6ad 4 = .ok (.iload_n 0, 1) := by decide +kernel
theorem dJ1_canEncode_9a6ad_5 : decode cJ1_canEncode_9a6ad 5 = .ok (.sipush 255, 3) := by decide +kernel
theorem dJ1_canEncode_9a6ad_8 : decode cJ1_canEncode_9a6ad 8 = .ok (.if_icmp .gt 7, 3) := by decide +kernel
theorem dJ1_canEncode_9a6ad_11 : decode cJ1_canEncode_9a6ad 11 = .ok (.iconst 1, 1) := by decide +kernel
theorem dJ1_canEncode_9a6ad_12 : decode cJ1_canEncode_9a6ad 12 = .ok (.goto 4, 3) := by decide +kernel
theorem dJ1_canEncode_9a6ad_15 : decode cJ1_canEncode_9a6ad 15 = .ok (.iconst 0, 1) := by decide +kernel
theorem dJ1_canEncode_9a6ad_16 : decode cJ1_canEncode_9a6ad 16 = .ok (.ireturn, 1) := by decide +kernel
theorem dJ1_indexOf_4cfef_0 : decode cJ1_indexOf_4cfef 0 = .ok (.iload_n 1, 1) := by decide +kernel
theorem dJ1_indexOf_4cfef_1 : decode cJ1_indexOf_4cfef 1 = .ok (.invokestatic 88, 3) := by decide +kernel
theorem dJ1_indexOf_4cfef_4 : decode cJ1_indexOf_4cfef 4 = .ok (.ifCond .ne 5, 3) := by decide +kernel
theorem dJ1_indexOf_4cfef_7 : decode cJ1_indexOf_4cfef 7 = .ok (.iconst (-1), 1) := by decide +kernel
theorem dJ1_indexOf_4cfef_8 : decode cJ1_indexOf_4cfef 8 = .ok (.ireturn, 1) := by decide +kernel
theorem dJ1_indexOf_4cfef_9 : decode cJ1_indexOf_4cfef 9 = .ok (.iload_n 2, 1) := by decide +kernel
theorem dJ1_indexOf_4cfef_10 : decode cJ1_indexOf_4cfef 10 = .ok (.iconst 0, 1) := by decide +kernel
theorem dJ1_indexOf_4cfef_11 : decode cJ1_indexOf_4cfef 11 = .ok (.invokestatic 92, 3) := by decide +kernel
theorem dJ1_indexOf_4cfef_14 : decode cJ1_indexOf_4cfef 14 = .ok (.istore_n 2, 1) := by decide +kernel
theorem dJ1_indexOf_4cfef_15 : decode cJ1_indexOf_4cfef 15 = .ok (.iload_n 3, 1) := by decide +kernel
theorem dJ1_indexOf_4cfef_16 : decode cJ1_indexOf_4cfef 16 = .ok (.aload_n 0, 1) := by decide +kernel
theorem dJ1_indexOf_4cfef_17 : decode cJ1_indexOf_4cfef 17 = .ok (.arraylength, 1) := by decide +kernel
theorem dJ1_indexOf_4cfef_18 : decode cJ1_indexOf_4cfef 18 = .ok (.invokestatic 38, 3) := by decide +kernel
theorem dJ1_indexOf_4cfef_21 : decode cJ1_indexOf_4cfef 21 = .ok (.istore_n 3, 1) := by decide +kernel
theorem dJ1_indexOf_4cfef_22 : decode cJ1_indexOf_4cfef 22 = .ok (.iload_n 2, 1) := by decide +kernel
theorem dJ1_indexOf_4cfef_23 : decode cJ1_indexOf_4cfef 23 = .ok (.iload_n 3, 1) := by decide +kernel
theorem dJ1_indexOf_4cfef_24 : decode cJ1_indexOf_4cfef 24 = .ok (.if_icmp .lt 5, 3) := by decide +kernel
theorem dJ1_indexOf_4cfef_27 : decode cJ1_indexOf_4cfef 27 = .ok (.iconst (-1), 1) := by decide +kernel
theorem dJ1_indexOf_4cfef_28 : decode cJ1_indexOf_4cfef 28 = .ok (.ireturn, 1) := by decide +kernel
theorem dJ1_indexOf_4cfef_29 : decode cJ1_indexOf_4cfef 29 = .ok (.aload_n 0, 1) := by decide +kernel
theorem dJ1_indexOf_4cfef_30 : decode cJ1_indexOf_4cfef 30 = .ok (.iload_n 1, 1) := by decide +kernel
theorem dJ1_indexOf_4cfef_31 : decode cJ1_indexOf_4cfef 31 = .ok (.iload_n 2, 1) := by decide +kernel
theorem dJ1_indexOf_4cfef_32 : decode cJ1_indexOf_4cfef 32 = .ok (.iload_n 3, 1) := by decide +kernel
theorem dJ1_indexOf_4cfef_33 : decode cJ1_indexOf_4cfef 33 = .ok (.invokestatic 95, 3) := by decide +kernel
theorem dJ1_indexOf_4cfef_36 : decode cJ1_indexOf_4cfef 36 = .ok (.ireturn, 1) := by decide +kernel
theorem dJ1_indexOfChar_4cfef_0 : decode cJ1_indexOfChar_4cfef 0 = .ok (.iload_n 1, 1) := by decide +kernel
theorem dJ1_indexOfChar_4cfef_1 : decode cJ1_indexOfChar_4cfef 1 = .ok (.i2b, 1) := by decide +kernel
theorem dJ1_indexOfChar_4cfef_2 : decode cJ1_indexOfChar_4cfef 2 = .ok (.istore 4, 2) := by decide +kernel
theorem dJ1_indexOfChar_4cfef_4 : decode cJ1_indexOfChar_4cfef 4 = .ok (.iload_n 2, 1) := by decide +kernel
theorem dJ1_indexOfChar_4cfef_5 : decode cJ1_indexOfChar_4cfef 5 = .ok (.istore 5, 2) := by decide +kernel
theorem dJ1_indexOfChar_4cfef_7 : decode cJ1_indexOfChar_4cfef 7 = .ok (.iload 5, 2) := by decide +kernel
theorem dJ1_indexOfChar_4cfef_9 : decode cJ1_indexOfChar_4cfef 9 = .ok (.iload_n 3, 1) := by decide +kernel
theorem dJ1_indexOfChar_4cfef_10 : decode cJ1_indexOfChar_4cfef 10 = .ok (.if_icmp .ge 21, 3) := by decide +kernel
theorem dJ1_indexOfChar_4cfef_13 : decode cJ1_indexOfChar_4cfef 13 = .ok (.aload_n 0, 1) := by decide +kernel
theorem dJ1_indexOfChar_4cfef_14 : decode cJ1_indexOfChar_4cfef 14 = .ok (.iload 5, 2) := by decide +kernel
theorem dJ1_indexOfChar_4cfef_16 : decode cJ1_indexOfChar_4cfef 16 = .ok (.baload, 1) := by decide +kernel
theorem dJ1_indexOfChar_4cfef_17 : decode cJ1_indexOfChar_4cfef 17 = .ok (.iload 4, 2) := by decide +kernel
theorem dJ1_indexOfChar_4cfef_19 : decode cJ1_indexOfChar_4cfef 19 = .ok (.if_icmp .ne 6, 3) := by decide +kernel
theorem dJ1_indexOfChar_4cfef_22 : decode cJ1_indexOfChar_4cfef 22 = .ok (.iload 5, 2) := by decide +kernel
theorem dJ1_indexOfChar_4cfef_24 : decode cJ1_indexOfChar_4cfef 24 = .ok (.ireturn, 1) := by decide +kernel
theorem dJ1_indexOfChar_4cfef_25 : decode cJ1_indexOfChar_4cfef 25 = .ok (.iinc 5 1, 3) := by decide +kernel
theorem dJ1_indexOfChar_4cfef_28 : decode cJ1_indexOfChar_4cfef 28 = .ok (.goto (-21), 3) := by decide +kernel
theorem dJ1_indexOfChar_4cfef_31 : decode cJ1_indexOfChar_4cfef 31 = .ok (.iconst (-1), 1) := by decide +kernel
theorem dJ1_indexOfChar_4cfef_32 : decode cJ1_indexOfChar_4cfef 32 = .ok (.ireturn, 1) := by decide +kernel
theorem dJ2_getChar_3b067_0 : decode cJ2_getChar_3b067 0 = .ok (.getstatic 44, 3) := by decide +kernel
theorem dJ2_getChar_3b067_3 : decode cJ2_getChar_3b067 3 = .ok (.ifCond .ne 25, 3) := by decide +kernel
theorem dJ2_getChar_3b067_6 : decode cJ2_getChar_3b067 6 = .ok (.iload_n 1, 1) := by decide +kernel
theorem dJ2_getChar_3b067_7 : decode cJ2_getChar_3b067 7 = .ok (.ifCond .lt 11, 3) := by decide +kernel
theorem dJ2_getChar_3b067_10 : decode cJ2_getChar_3b067 10 = .ok (.iload_n 1, 1) := by decide +kernel
theorem dJ2_getChar_3b067_11 : decode cJ2_getChar_3b067 11 = .ok (.aload_n 0, 1) := by decide +kernel
theorem dJ2_getChar_3b067_12 : decode cJ2_getChar_3b067 12 = .ok (.invokestatic 48, 3) := by decide +kernel
theorem dJ2_getChar_3b067_15 : decode cJ2_getChar_3b067 15 = .ok (.if_icmp .lt 13, 3) := by decide +kernel
theorem dJ2_getChar_3b067_18 : decode cJ2_getChar_3b067 18 = .ok (.new 52, 3) := by decide +kernel
theorem dJ2_getChar_3b067_21 : decode cJ2_getChar_3b067 21 = .ok (.dup, 1) := by decide +kernel
theorem dJ2_getChar_3b067_22 : decode cJ2_getChar_3b067 22 = .ok (.ldc 54, 2) := by decide +kernel
theorem dJ2_getChar_3b067_24 : decode cJ2_getChar_3b067 24 = .ok (.invokespecial 56, 3) := by decide +kernel
theorem dJ2_getChar_3b067_27 : decode cJ2_getChar_3b067 27 = .ok (.athrow, 1) := by decide +kernel
theorem dJ2_getChar_3b067_28 : decode cJ2_getChar_3b067 28 = .ok (.iload_n 1, 1) := by decide +kernel
theorem dJ2_getChar_3b067_29 : decode cJ2_getChar_3b067 29 = .ok (.iconst 1, 1) := by decide +kernel
theorem dJ2_getChar_3b067_30 : decode cJ2_getChar_3b067 30 = .ok (.ishl, 1) := by decide +kernel
theorem dJ2_getChar_3b067_31 : decode cJ2_getChar_3b067 31 = .ok (.istore_n 1, 1) := by decide +kernel
theorem dJ2_getChar_3b067_32 : decode cJ2_getChar_3b067 32 = .ok (.aload_n 0, 1) := by decide +kernel
theorem dJ2_getChar_3b067_33 : decode cJ2_getChar_3b067 33 = .ok (.iload_n 1, 1) := by decide +kernel
theorem dJ2_getChar_3b067_34 : decode cJ2_getChar_3b067 34 = .ok (.iinc 1 1, 3) := by decide +kernel
theorem dJ2_getChar_3b067_37 : decode cJ2_getChar_3b067 37 = .ok (.baload, 1) := by decide +kernel
theorem dJ2_getChar_3b067_38 : decode cJ2_getChar_3b067 38 = .ok (.sipush 255, 3) := by decide +kernel
theorem dJ2_getChar_3b067_41 : decode cJ2_getChar_3b067 41 = .ok (.iand, 1) := by decide +kernel
theorem dJ2_getChar_3b067_42 : decode cJ2_getChar_3b067 42 = .ok (.getstatic 59, 3) := by decide +kernel
theorem dJ2_getChar_3b067_45 : decode cJ2_getChar_3b067 45 = .ok (.ishl, 1) := by decide +kernel
theorem dJ2_getChar_3b067_46 : decode cJ2_getChar_3b067 46 = .ok (.aload_n 0, 1) := by decide +kernel
theorem dJ2_getChar_3b067_47 : decode cJ2_getChar_3b067 47 = .ok (.iload_n 1, 1) := by decide +kernel
theorem dJ2_getChar_3b067_48 : decode cJ2_getChar_3b067 48 = .ok (.baload, 1) := by decide +kernel
theorem dJ2_getChar_3b067_49 : decode cJ2_getChar_3b067 49 = .ok (.sipush 255, 3) := by decide +kernel
theorem dJ2_getChar_3b067_52 : decode cJ2_getChar_3b067 52 = .ok (.iand, 1) := by decide +kernel
theorem dJ2_getChar_3b067_53 : decode cJ2_getChar_3b067 53 = .ok (.getstatic 63, 3) := by decide +kernel
theorem dJ2_getChar_3b067_56 : decode cJ2_getChar_3b067 56 = .ok (.ishl, 1) := by decide +kernel
theorem dJ2_getChar_3b067_57 : decode cJ2_getChar_3b067 57 = .ok (.ior, 1) := by decide +kernel
theorem dJ2_getChar_3b067_58 : decode cJ2_getChar_3b067 58 = .ok (.i2c, 1) := by decide +kernel
theorem dJ2_getChar_3b067_59 : decode cJ2_getChar_3b067 59 = .ok (.ireturn, 1) := by decide +kernel
theorem dJ2_length_9d52b_0 : decode cJ2_length_9d52b 0 = .ok (.aload_n 0, 1) := by decide +kernel
theorem dJ2_length_9d52b_1 : decode cJ2_length_9d52b 1 = .ok (.arraylength, 1) := by decide +kernel
theorem dJ2_length_9d52b_2 : decode cJ2_length_9d52b 2 = .ok (.iconst 1, 1) := by decide +kernel
theorem dJ2_length_9d52b_3 : decode cJ2_length_9d52b 3 = .ok (.ishr, 1) := by decide +kernel
theorem dJ2_length_9d52b_4 : decode cJ2_length_9d52b 4 = .ok (.ireturn, 1) := by decide +kernel
theorem dJ2_indexOf_4cfef_0 : decode cJ2_indexOf_4cfef 0 = .ok (.iload_n 2, 1) := by decide +kernel
theorem dJ2_indexOf_4cfef_1 : decode cJ2_indexOf_4cfef 1 = .ok (.iconst 0, 1) := by decide +kernel
theorem dJ2_indexOf_4cfef_2 : decode cJ2_indexOf_4cfef 2 = .ok (.invokestatic 224, 3) := by decide +kernel
theorem dJ2_indexOf_4cfef_5 : decode cJ2_indexOf_4cfef 5 = .ok (.istore_n 2, 1) := by decide +kernel
theorem dJ2_indexOf_4cfef_6 : decode cJ2_indexOf_4cfef 6 = .ok (.iload_n 3, 1) := by decide +kernel
theorem dJ2_indexOf_4cfef_7 : decode cJ2_indexOf_4cfef 7 = .ok (.aload_n 0, 1) := by decide +kernel
theorem dJ2_indexOf_4cfef_8 : decode cJ2_indexOf_4cfef 8 = .ok (.arraylength, 1) := by decide +kernel
theorem dJ2_indexOf_4cfef_9 : decode cJ2_indexOf_4cfef 9 = .ok (.iconst 1, 1) := by decide +kernel
theorem dJ2_indexOf_4cfef_10 : decode cJ2_indexOf_4cfef 10 = .ok (.ishr, 1) := by decide +kernel
theorem dJ2_indexOf_4cfef_11 : decode cJ2_indexOf_4cfef 11 = .ok (.invokestatic 183, 3) := by decide +kernel
theorem dJ2_indexOf_4cfef_14 : decode cJ2_indexOf_4cfef 14 = .ok (.istore_n 3, 1) := by decide +kernel
theorem dJ2_indexOf_4cfef_15 : decode cJ2_indexOf_4cfef 15 = .ok (.iload_n 2, 1) := by decide +kernel
theorem dJ2_indexOf_4cfef_16 : decode cJ2_indexOf_4cfef 16 = .ok (.iload_n 3, 1) := by decide +kernel
theorem dJ2_indexOf_4cfef_17 : decode cJ2_indexOf_4cfef 17 = .ok (.if_icmp .lt 5, 3) := by decide +kernel
theorem dJ2_indexOf_4cfef_20 : decode cJ2_indexOf_4cfef 20 = .ok (.iconst (-1), 1) := by decide +kernel
theorem dJ2_indexOf_4cfef_21 : decode cJ2_indexOf_4cfef 21 = .ok (.ireturn, 1) := by decide +kernel
theorem dJ2_indexOf_4cfef_22 : decode cJ2_indexOf_4cfef 22 = .ok (.iload_n 1, 1) := by decide +kernel
theorem dJ2_indexOf_4cfef_23 : decode cJ2_indexOf_4cfef 23 = .ok (.ldc 227, 2) := by decide +kernel
theorem dJ2_indexOf_4cfef_25 : decode cJ2_indexOf_4cfef 25 = .ok (.if_icmp .ge 11, 3) := by decide +kernel
theorem dJ2_indexOf_4cfef_28 : decode cJ2_indexOf_4cfef 28 = .ok (.aload_n 0, 1) := by decide +kernel
theorem dJ2_indexOf_4cfef_29 : decode cJ2_indexOf_4cfef 29 = .ok (.iload_n 1, 1) := by decide +kernel
theorem dJ2_indexOf_4cfef_30 : decode cJ2_indexOf_4cfef 30 = .ok (.iload_n 2, 1) := by decide +kernel
theorem dJ2_indexOf_4cfef_31 : decode cJ2_indexOf_4cfef 31 = .ok (.iload_n 3, 1) := by decide +kernel
theorem dJ2_indexOf_4cfef_32 : decode cJ2_indexOf_4cfef 32 = .ok (.invokestatic 228, 3) := by decide +kernel
theorem dJ2_indexOf_4cfef_35 : decode cJ2_indexOf_4cfef 35 = .ok (.ireturn, 1) := by decide +kernel
theorem dJ2_indexOf_4cfef_36 : decode cJ2_indexOf_4cfef 36 = .ok (.aload_n 0, 1) := by decide +kernel
theorem dJ2_indexOf_4cfef_37 : decode cJ2_indexOf_4cfef 37 = .ok (.iload_n 1, 1) := by decide +kernel
theorem dJ2_indexOf_4cfef_38 : decode cJ2_indexOf_4cfef 38 = .ok (.iload_n 2, 1) := by decide +kernel
theorem dJ2_indexOf_4cfef_39 : decode cJ2_indexOf_4cfef 39 = .ok (.iload_n 3, 1) := by decide +kernel
theorem dJ2_indexOf_4cfef_40 : decode cJ2_indexOf_4cfef 40 = .ok (.invokestatic 232, 3) := by decide +kernel
theorem dJ2_indexOf_4cfef_43 : decode cJ2_indexOf_4cfef 43 = .ok (.ireturn, 1) := by decide +kernel
theorem dJ2_indexOfChar_4cfef_0 : decode cJ2_indexOfChar_4cfef 0 = .ok (.iload_n 2, 1) := by decide +kernel
theorem dJ2_indexOfChar_4cfef_1 : decode cJ2_indexOfChar_4cfef 1 = .ok (.iload_n 3, 1) := by decide +kernel
theorem dJ2_indexOfChar_4cfef_2 : decode cJ2_indexOfChar_4cfef 2 = .ok (.aload_n 0, 1) := by decide +kernel
theorem dJ2_indexOfChar_4cfef_3 : decode cJ2_indexOfChar_4cfef 3 = .ok (.invokestatic 96, 3) := by decide +kernel
theorem dJ2_indexOfChar_4cfef_6 : decode cJ2_indexOfChar_4cfef 6 = .ok (.aload_n 0, 1) := by decide +kernel
theorem dJ2_indexOfChar_4cfef_7 : decode cJ2_indexOfChar_4cfef 7 = .ok (.iload_n 1, 1) := by decide +kernel
theorem dJ2_indexOfChar_4cfef_8 : decode cJ2_indexOfChar_4cfef 8 = .ok (.iload_n 2, 1) := by decide +kernel
theorem dJ2_indexOfChar_4cfef_9 : decode cJ2_indexOfChar_4cfef 9 = .ok (.iload_n 3, 1) := by decide +kernel
theorem dJ2_indexOfChar_4cfef_10 : decode cJ2_indexOfChar_4cfef 10 = .ok (.invokestatic 244, 3) := by decide +kernel
theorem dJ2_indexOfChar_4cfef_13 : decode cJ2_indexOfChar_4cfef 13 = .ok (.ireturn, 1) := by decide +kernel
theorem dJ2_indexOfCharUnsafe_4cfef_0 : decode cJ2_indexOfCharUnsafe_4cfef 0 = .ok (.iload_n 2, 1) := by decide +kernel
theorem dJ2_indexOfCharUnsafe_4cfef_1 : decode cJ2_indexOfCharUnsafe_4cfef 1 = .ok (.istore 4, 2) := by decide +kernel
theorem dJ2_indexOfCharUnsafe_4cfef_3 : decode cJ2_indexOfCharUnsafe_4cfef 3 = .ok (.iload 4, 2) := by decide +kernel
theorem dJ2_indexOfCharUnsafe_4cfef_5 : decode cJ2_indexOfCharUnsafe_4cfef 5 = .ok (.iload_n 3, 1) := by decide +kernel
theorem dJ2_indexOfCharUnsafe_4cfef_6 : decode cJ2_indexOfCharUnsafe_4cfef 6 = .ok (.if_icmp .ge 22, 3) := by decide +kernel
theorem dJ2_indexOfCharUnsafe_4cfef_9 : decode cJ2_indexOfCharUnsafe_4cfef 9 = .ok (.aload_n 0, 1) := by decide +kernel
theorem dJ2_indexOfCharUnsafe_4cfef_10 : decode cJ2_indexOfCharUnsafe_4cfef 10 = .ok (.iload 4, 2) := by decide +kernel
theorem dJ2_indexOfCharUnsafe_4cfef_12 : decode cJ2_indexOfCharUnsafe_4cfef 12 = .ok (.invokestatic 71, 3) := by decide +kernel
theorem dJ2_indexOfCharUnsafe_4cfef_15 : decode cJ2_indexOfCharUnsafe_4cfef 15 = .ok (.iload_n 1, 1) := by decide +kernel
theorem dJ2_indexOfCharUnsafe_4cfef_16 : decode cJ2_indexOfCharUnsafe_4cfef 16 = .ok (.if_icmp .ne 6, 3) := by decide +kernel
theorem dJ2_indexOfCharUnsafe_4cfef_19 : decode cJ2_indexOfCharUnsafe_4cfef 19 = .ok (.iload 4, 2) := by decide +kernel
theorem dJ2_indexOfCharUnsafe_4cfef_21 : decode cJ2_indexOfCharUnsafe_4cfef 21 = .ok (.ireturn, 1) := by decide +kernel
theorem dJ2_indexOfCharUnsafe_4cfef_22 : decode cJ2_indexOfCharUnsafe_4cfef 22 = .ok (.iinc 4 1, 3) := by decide +kernel
theorem dJ2_indexOfCharUnsafe_4cfef_25 : decode cJ2_indexOfCharUnsafe_4cfef 25 = .ok (.goto (-22), 3) := by decide +kernel
theorem dJ2_indexOfCharUnsafe_4cfef_28 : decode cJ2_indexOfCharUnsafe_4cfef 28 = .ok (.iconst (-1), 1) := by decide +kernel
theorem dJ2_indexOfCharUnsafe_4cfef_29 : decode cJ2_indexOfCharUnsafe_4cfef 29 = .ok (.ireturn, 1) := by decide +kernel
theorem dJ2_indexOfSupplementary_4cfef_0 : decode cJ2_indexOfSupplementary_4cfef 0 = .ok (.iload_n 1, 1) := by decide +kernel
theorem dJ2_indexOfSupplementary_4cfef_1 : decode cJ2_indexOfSupplementary_4cfef 1 = .ok (.invokestatic 164, 3) := by decide +kernel
theorem dJ2_indexOfSupplementary_4cfef_4 : decode cJ2_indexOfSupplementary_4cfef 4 = .ok (.ifCond .eq 65, 3) := by decide +kernel
theorem dJ2_indexOfSupplementary_4cfef_7 : decode cJ2_indexOfSupplementary_4cfef 7 = .ok (.iload_n 1, 1) := by decide +kernel
theorem dJ2_indexOfSupplementary_4cfef_8 : decode cJ2_indexOfSupplementary_4cfef 8 = .ok (.invokestatic 157, 3) := by decide +kernel
theorem dJ2_indexOfSupplementary_4cfef_11 : decode cJ2_indexOfSupplementary_4cfef 11 = .ok (.istore 4, 2) := by decide +kernel
theorem dJ2_indexOfSupplementary_4cfef_13 : decode cJ2_indexOfSupplementary_4cfef 13 = .ok (.iload_n 1, 1) := by decide +kernel
theorem dJ2_indexOfSupplementary_4cfef_14 : decode cJ2_indexOfSupplementary_4cfef 14 = .ok (.invokestatic 161, 3) := by decide +kernel
theorem dJ2_indexOfSupplementary_4cfef_17 : decode cJ2_indexOfSupplementary_4cfef 17 = .ok (.istore 5, 2) := by decide +kernel
theorem dJ2_indexOfSupplementary_4cfef_19 : decode cJ2_indexOfSupplementary_4cfef 19 = .ok (.iload_n 2, 1) := by decide +kernel
theorem dJ2_indexOfSupplementary_4cfef_20 : decode cJ2_indexOfSupplementary_4cfef 20 = .ok (.iload_n 3, 1) := by decide +kernel
theorem dJ2_indexOfSupplementary_4cfef_21 : decode cJ2_indexOfSupplementary_4cfef 21 = .ok (.aload_n 0, 1) := by decide +kernel
theorem dJ2_indexOfSupplementary_4cfef_22 : decode cJ2_indexOfSupplementary_4cfef 22 = .ok (.invokestatic 96, 3) := by decide +kernel
theorem dJ2_indexOfSupplementary_4cfef_25 : decode cJ2_indexOfSupplementary_4cfef 25 = .ok (.iload_n 2, 1) := by decide +kernel
theorem dJ2_indexOfSupplementary_4cfef_26 : decode cJ2_indexOfSupplementary_4cfef 26 = .ok (.istore 6, 2) := by decide +kernel
theorem dJ2_indexOfSupplementary_4cfef_28 : decode cJ2_indexOfSupplementary_4cfef 28 = .ok (.iload 6, 2) := by decide +kernel
theorem dJ2_indexOfSupplementary_4cfef_30 : decode cJ2_indexOfSupplementary_4cfef 30 = .ok (.iload_n 3, 1) := by decide +kernel
theorem dJ2_indexOfSupplementary_4cfef_31 : decode cJ2_indexOfSupplementary_4cfef 31 = .ok (.iconst 1, 1) := by decide +kernel
theorem dJ2_indexOfSupplementary_4cfef_32 : decode cJ2_indexOfSupplementary_4cfef 32 = .ok (.isub, 1) := by decide +kernel
theorem dJ2_indexOfSupplementary_4cfef_33 : decode cJ2_indexOfSupplementary_4cfef 33 = .ok (.if_icmp .ge 36, 3) := by decide +kernel
theorem dJ2_indexOfSupplementary_4cfef_36 : decode cJ2_indexOfSupplementary_4cfef 36 = .ok (.aload_n 0, 1) := by decide +kernel
theorem dJ2_indexOfSupplementary_4cfef_37 : decode cJ2_indexOfSupplementary_4cfef 37 = .ok (.iload 6, 2) := by decide +kernel
theorem dJ2_indexOfSupplementary_4cfef_39 : decode cJ2_indexOfSupplementary_4cfef 39 = .ok (.invokestatic 71, 3) := by decide +kernel
theorem dJ2_indexOfSupplementary_4cfef_42 : decode cJ2_indexOfSupplementary_4cfef 42 = .ok (.iload 4, 2) := by decide +kernel
theorem dJ2_indexOfSupplementary_4cfef_44 : decode cJ2_indexOfSupplementary_4cfef 44 = .ok (.if_icmp .ne 19, 3) := by decide +kernel
theorem dJ2_indexOfSupplementary_4cfef_47 : decode cJ2_indexOfSupplementary_4cfef 47 = .ok (.aload_n 0, 1) := by decide +kernel
theorem dJ2_indexOfSupplementary_4cfef_48 : decode cJ2_indexOfSupplementary_4cfef 48 = .ok (.iload 6, 2) := by decide +kernel
theorem dJ2_indexOfSupplementary_4cfef_50 : decode cJ2_indexOfSupplementary_4cfef 50 = .ok (.iconst 1, 1) := by decide +kernel
theorem dJ2_indexOfSupplementary_4cfef_51 : decode cJ2_indexOfSupplementary_4cfef 51 = .ok (.iadd, 1) := by decide +kernel
theorem dJ2_indexOfSupplementary_4cfef_52 : decode cJ2_indexOfSupplementary_4cfef 52 = .ok (.invokestatic 71, 3) := by decide +kernel
theorem dJ2_indexOfSupplementary_4cfef_55 : decode cJ2_indexOfSupplementary_4cfef 55 = .ok (.iload 5, 2) := by decide +kernel
theorem dJ2_indexOfSupplementary_4cfef_57 : decode cJ2_indexOfSupplementary_4cfef 57 = .ok (.if_icmp .ne 6, 3) := by decide +kernel
theorem dJ2_indexOfSupplementary_4cfef_60 : decode cJ2_indexOfSupplementary_4cfef 60 = .ok (.iload 6, 2) := by decide +kernel
theorem dJ2_indexOfSupplementary_4cfef_62 : decode cJ2_indexOfSupplementary_4cfef 62 = .ok (.ireturn, 1) := by decide +kernel
theorem dJ2_indexOfSupplementary_4cfef_63 : decode cJ2_indexOfSupplementary_4cfef 63 = .ok (.iinc 6 1, 3) := by decide +kernel
theorem dJ2_indexOfSupplementary_4cfef_66 : decode cJ2_indexOfSupplementary_4cfef 66 = .ok (.goto (-38), 3) := by decide +kernel
theorem dJ2_indexOfSupplementary_4cfef_69 : decode cJ2_indexOfSupplementary_4cfef 69 = .ok (.iconst (-1), 1) := by decide +kernel
theorem dJ2_indexOfSupplementary_4cfef_70 : decode cJ2_indexOfSupplementary_4cfef 70 = .ok (.ireturn, 1) := by decide +kernel
theorem dJ2_charAt_3b067_0 : decode cJ2_charAt_3b067 0 = .ok (.iload_n 1, 1) := by decide +kernel
theorem dJ2_charAt_3b067_1 : decode cJ2_charAt_3b067 1 = .ok (.aload_n 0, 1) := by decide +kernel
theorem dJ2_charAt_3b067_2 : decode cJ2_charAt_3b067 2 = .ok (.invokestatic 67, 3) := by decide +kernel
theorem dJ2_charAt_3b067_5 : decode cJ2_charAt_3b067 5 = .ok (.aload_n 0, 1) := by decide +kernel
theorem dJ2_charAt_3b067_6 : decode cJ2_charAt_3b067 6 = .ok (.iload_n 1, 1) := by decide +kernel
theorem dJ2_charAt_3b067_7 : decode cJ2_charAt_3b067 7 = .ok (.invokestatic 71, 3) := by decide +kernel
theorem dJ2_charAt_3b067_10 : decode cJ2_charAt_3b067 10 = .ok (.ireturn, 1) := by decide +kernel
theorem dJ2_checkIndex_2214a_0 : decode cJ2_checkIndex_2214a 0 = .ok (.iload_n 0, 1) := by decide +kernel
theorem dJ2_checkIndex_2214a_1 : decode cJ2_checkIndex_2214a 1 = .ok (.aload_n 1, 1) := by decide +kernel
theorem dJ2_checkIndex_2214a_2 : decode cJ2_checkIndex_2214a 2 = .ok (.invokestatic 48, 3) := by decide +kernel
theorem dJ2_checkIndex_2214a_5 : decode cJ2_checkIndex_2214a 5 = .ok (.invokestatic 414, 3) := by decide +kernel
theorem dJ2_checkIndex_2214a_8 : decode cJ2_checkIndex_2214a 8 = .ok (.return_, 1) := by decide +kernel
theorem dJ2_checkBoundsBeginEnd_d044e_0 : decode cJ2_checkBoundsBeginEnd_d044e 0 = .ok (.iload_n 0, 1) := by decide +kernel
theorem dJ2_checkBoundsBeginEnd_d044e_1 : decode cJ2_checkBoundsBeginEnd_d044e 1 = .ok (.iload_n 1, 1) := by decide +kernel
theorem dJ2_checkBoundsBeginEnd_d044e_2 : decode cJ2_checkBoundsBeginEnd_d044e 2 = .ok (.aload_n 2, 1) := by decide +kernel
theorem dJ2_checkBoundsBeginEnd_d044e_3 : decode cJ2_checkBoundsBeginEnd_d044e 3 = .ok (.invokestatic 48, 3) := by decide +kernel
theorem dJ2_checkBoundsBeginEnd_d044e_6 : decode cJ2_checkBoundsBeginEnd_d044e 6 = .ok (.invokestatic 241, 3) := by decide +kernel
theorem dJ2_checkBoundsBeginEnd_d044e_9 : decode cJ2_checkBoundsBeginEnd_d044e 9 = .ok (.return_, 1) := by decide +kernel
theorem dJ7_fill_53178_0 : decode cJ7_fill_53178 0 = .ok (.iconst 0, 1) := by decide +kernel
theorem dJ7_fill_53178_1 : decode cJ7_fill_53178 1 = .ok (.istore_n 2, 1) := by decide +kernel
theorem dJ7_fill_53178_2 : decode cJ7_fill_53178 2 = .ok (.aload_n 0, 1) := by decide +kernel
theorem dJ7_fill_53178_3 : decode cJ7_fill_53178 3 = .ok (.arraylength, 1) := by decide +kernel
theorem dJ7_fill_53178_4 : decode cJ7_fill_53178 4 = .ok (.istore_n 3, 1) := by decide +kernel
theorem dJ7_fill_53178_5 : decode cJ7_fill_53178 5 = .ok (.iload_n 2, 1) := by decide +kernel
theorem dJ7_fill_53178_6 : decode cJ7_fill_53178 6 = .ok (.iload_n 3, 1) := by decide +kernel
theorem dJ7_fill_53178_7 : decode cJ7_fill_53178 7 = .ok (.if_icmp .ge 13, 3) := by decide +kernel
theorem dJ7_fill_53178_10 : decode cJ7_fill_53178 10 = .ok (.aload_n 0, 1) := by decide +kernel
theorem dJ7_fill_53178_11 : decode cJ7_fill_53178 11 = .ok (.iload_n 2, 1) := by decide +kernel
theorem dJ7_fill_53178_12 : decode cJ7_fill_53178 12 = .ok (.iload_n 1, 1) := by decide +kernel
theorem dJ7_fill_53178_13 : decode cJ7_fill_53178 13 = .ok (.iastore, 1) := by decide +kernel
theorem dJ7_fill_53178_14 : decode cJ7_fill_53178 14 = .ok (.iinc 2 1, 3) := by decide +kernel
theorem dJ7_fill_53178_17 : decode cJ7_fill_53178 17 = .ok (.goto (-12), 3) := by decide +kernel
theorem dJ7_fill_53178_20 : decode cJ7_fill_53178 20 = .ok (.return_, 1) := by decide +kernel
theorem dJ3_checkIndex_8e157_0 : decode cJ3_checkIndex_8e157 0 = .ok (.iload_n 0, 1) := by decide +kernel
theorem dJ3_checkIndex_8e157_1 : decode cJ3_checkIndex_8e157 1 = .ok (.ifCond .lt 8, 3) := by decide +kernel
theorem dJ3_checkIndex_8e157_4 : decode cJ3_checkIndex_8e157 4 = .ok (.iload_n 0, 1) := by decide +kernel
theorem dJ3_checkIndex_8e157_5 : decode cJ3_checkIndex_8e157 5 = .ok (.iload_n 1, 1) := by decide +kernel
theorem dJ3_checkIndex_8e157_6 : decode cJ3_checkIndex_8e157 6 = .ok (.if_icmp .lt 10, 3) := by decide +kernel
theorem dJ3_checkIndex_8e157_9 : decode cJ3_checkIndex_8e157 9 = .ok (.aload_n 2, 1) := by decide +kernel
theorem dJ3_checkIndex_8e157_10 : decode cJ3_checkIndex_8e157 10 = .ok (.iload_n 0, 1) := by decide +kernel
theorem dJ3_checkIndex_8e157_11 : decode cJ3_checkIndex_8e157 11 = .ok (.iload_n 1, 1) := by decide +kernel
theorem dJ3_checkIndex_8e157_12 : decode cJ3_checkIndex_8e157 12 = .ok (.invokestatic 95, 3) := by decide +kernel
theorem dJ3_checkIndex_8e157_15 : decode cJ3_checkIndex_8e157 15 = .ok (.athrow, 1) := by decide +kernel
theorem dJ3_checkIndex_8e157_16 : decode cJ3_checkIndex_8e157 16 = .ok (.iload_n 0, 1) := by decide +kernel
theorem dJ3_checkIndex_8e157_17 : decode cJ3_checkIndex_8e157 17 = .ok (.ireturn, 1) := by decide +kernel
theorem dJ3_checkFromToIndex_8c36e_0 : decode cJ3_checkFromToIndex_8c36e 0 = .ok (.iload_n 0, 1) := by decide +kernel
theorem dJ3_checkFromToIndex_8c36e_1 : decode cJ3_checkFromToIndex_8c36e 1 = .ok (.ifCond .lt 13, 3) := by decide +kernel
theorem dJ3_checkFromToIndex_8c36e_4 : decode cJ3_checkFromToIndex_8c36e 4 = .ok (.iload_n 0, 1) := by decide +kernel
theorem dJ3_checkFromToIndex_8c36e_5 : decode cJ3_checkFromToIndex_8c36e 5 = .ok (.iload_n 1, 1) := by decide +kernel
theorem dJ3_checkFromToIndex_8c36e_6 : decode cJ3_checkFromToIndex_8c36e 6 = .ok (.if_icmp .gt 8, 3) := by decide +kernel
theorem dJ3_checkFromToIndex_8c36e_9 : decode cJ3_checkFromToIndex_8c36e 9 = .ok (.iload_n 1, 1) := by decide +kernel
theorem dJ3_checkFromToIndex_8c36e_10 : decode cJ3_checkFromToIndex_8c36e 10 = .ok (.iload_n 2, 1) := by decide +kernel
theorem dJ3_checkFromToIndex_8c36e_11 : decode cJ3_checkFromToIndex_8c36e 11 = .ok (.if_icmp .le 11, 3) := by decide +kernel
theorem dJ3_checkFromToIndex_8c36e_14 : decode cJ3_checkFromToIndex_8c36e 14 = .ok (.aload_n 3, 1) := by decide +kernel
theorem dJ3_checkFromToIndex_8c36e_15 : decode cJ3_checkFromToIndex_8c36e 15 = .ok (.iload_n 0, 1) := by decide +kernel
theorem dJ3_checkFromToIndex_8c36e_16 : decode cJ3_checkFromToIndex_8c36e 16 = .ok (.iload_n 1, 1) := by decide +kernel
theorem dJ3_checkFromToIndex_8c36e_17 : decode cJ3_checkFromToIndex_8c36e 17 = .ok (.iload_n 2, 1) := by decide +kernel
theorem dJ3_checkFromToIndex_8c36e_18 : decode cJ3_checkFromToIndex_8c36e 18 = .ok (.invokestatic 99, 3) := by decide +kernel
theorem dJ3_checkFromToIndex_8c36e_21 : decode cJ3_checkFromToIndex_8c36e 21 = .ok (.athrow, 1) := by decide +kernel
theorem dJ3_checkFromToIndex_8c36e_22 : decode cJ3_checkFromToIndex_8c36e 22 = .ok (.iload_n 0, 1) := by decide +kernel
theorem dJ3_checkFromToIndex_8c36e_23 : decode cJ3_checkFromToIndex_8c36e 23 = .ok (.ireturn, 1) := by decide +kernel
