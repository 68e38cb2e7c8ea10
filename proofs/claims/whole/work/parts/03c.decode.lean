theorem dX6_init_0 : decode cX6_init 0 = .ok (.aload_n 0, 1) := by decide +kernel
theorem dX6_init_1 : decode cX6_init 1 = .ok (.invokespecial 1, 3) := by decide +kernel
theorem dX6_init_4 : decode cX6_init 4 = .ok (.aload_n 0, 1) := by decide +kernel
theorem dX6_init_5 : decode cX6_init 5 = .ok (.new 7, 3) := by decide +kernel
theorem dX6_init_8 : decode cX6_init 8 = .ok (.dup, 1) := by decide +kernel
theorem dX6_init_9 : decode cX6_init 9 = .ok (.invokespecial 9, 3) := by decide +kernel
theorem dX6_init_12 : decode cX6_init 12 = .ok (.putfield 10, 3) := by decide +kernel
theorem dX6_init_15 : decode cX6_init 15 = .ok (.aload_n 0, 1) := by decide +kernel
theorem dX6_init_16 : decode cX6_init 16 = .ok (.bipush 25, 2) := by decide +kernel
theorem dX6_init_18 : decode cX6_init 18 = .ok (.newarray .int, 2) := by decide +kernel
theorem dX6_init_20 : decode cX6_init 20 = .ok (.putfield 16, 3) := by decide +kernel
theorem dX6_init_23 : decode cX6_init 23 = .ok (.aload_n 0, 1) := by decide +kernel
theorem dX6_init_24 : decode cX6_init 24 = .ok (.bipush 16, 2) := by decide +kernel
theorem dX6_init_26 : decode cX6_init 26 = .ok (.newarray .int, 2) := by decide +kernel
theorem dX6_init_28 : decode cX6_init 28 = .ok (.putfield 20, 3) := by decide +kernel
theorem dX6_init_31 : decode cX6_init 31 = .ok (.aload_n 0, 1) := by decide +kernel
theorem dX6_init_32 : decode cX6_init 32 = .ok (.new 23, 3) := by decide +kernel
theorem dX6_init_35 : decode cX6_init 35 = .ok (.dup, 1) := by decide +kernel
theorem dX6_init_36 : decode cX6_init 36 = .ok (.invokespecial 25, 3) := by decide +kernel
theorem dX6_init_39 : decode cX6_init 39 = .ok (.putfield 26, 3) := by decide +kernel
theorem dX6_init_42 : decode cX6_init 42 = .ok (.aload_n 0, 1) := by decide +kernel
theorem dX6_init_43 : decode cX6_init 43 = .ok (.new 23, 3) := by decide +kernel
theorem dX6_init_46 : decode cX6_init 46 = .ok (.dup, 1) := by decide +kernel
theorem dX6_init_47 : decode cX6_init 47 = .ok (.invokespecial 25, 3) := by decide +kernel
theorem dX6_init_50 : decode cX6_init 50 = .ok (.putfield 30, 3) := by decide +kernel
theorem dX6_init_53 : decode cX6_init 53 = .ok (.aload_n 0, 1) := by decide +kernel
theorem dX6_init_54 : decode cX6_init 54 = .ok (.new 33, 3) := by decide +kernel
theorem dX6_init_57 : decode cX6_init 57 = .ok (.dup, 1) := by decide +kernel
theorem dX6_init_58 : decode cX6_init 58 = .ok (.invokespecial 35, 3) := by decide +kernel
theorem dX6_init_61 : decode cX6_init 61 = .ok (.putfield 36, 3) := by decide +kernel
theorem dX6_init_64 : decode cX6_init 64 = .ok (.aload_n 0, 1) := by decide +kernel
theorem dX6_init_65 : decode cX6_init 65 = .ok (.new 33, 3) := by decide +kernel
theorem dX6_init_68 : decode cX6_init 68 = .ok (.dup, 1) := by decide +kernel
theorem dX6_init_69 : decode cX6_init 69 = .ok (.invokespecial 35, 3) := by decide +kernel
theorem dX6_init_72 : decode cX6_init 72 = .ok (.putfield 40, 3) := by decide +kernel
theorem dX6_init_75 : decode cX6_init 75 = .ok (.aload_n 0, 1) := by decide +kernel
theorem dX6_init_76 : decode cX6_init 76 = .ok (.getfield 16, 3) := by decide +kernel
theorem dX6_init_79 : decode cX6_init 79 = .ok (.iconst (-1), 1) := by decide +kernel
theorem dX6_init_80 : decode cX6_init 80 = .ok (.invokestatic 43, 3) := by decide +kernel
theorem dX6_init_83 : decode cX6_init 83 = .ok (.return_, 1) := by decide +kernel
theorem dX6_feed_0 : decode cX6_feed 0 = .ok (.aload_n 0, 1) := by decide +kernel
theorem dX6_feed_1 : decode cX6_feed 1 = .ok (.getfield 10, 3) := by decide +kernel
theorem dX6_feed_4 : decode cX6_feed 4 = .ok (.getfield 49, 3) := by decide +kernel
theorem dX6_feed_7 : decode cX6_feed 7 = .ok (.bipush 20, 2) := by decide +kernel
theorem dX6_feed_9 : decode cX6_feed 9 = .ok (.iadd, 1) := by decide +kernel
theorem dX6_feed_10 : decode cX6_feed 10 = .ok (.sipush 1200, 3) := by decide +kernel
theorem dX6_feed_13 : decode cX6_feed 13 = .ok (.if_icmp .le 5, 3) := by decide +kernel
theorem dX6_feed_16 : decode cX6_feed 16 = .ok (.iconst (-1), 1) := by decide +kernel
theorem dX6_feed_17 : decode cX6_feed 17 = .ok (.ireturn, 1) := by decide +kernel
theorem dX6_feed_18 : decode cX6_feed 18 = .ok (.aload_n 0, 1) := by decide +kernel
theorem dX6_feed_19 : decode cX6_feed 19 = .ok (.getfield 10, 3) := by decide +kernel
theorem dX6_feed_22 : decode cX6_feed 22 = .ok (.iload_n 1, 1) := by decide +kernel
theorem dX6_feed_23 : decode cX6_feed 23 = .ok (.invokevirtual 53, 3) := by decide +kernel
theorem dX6_feed_26 : decode cX6_feed 26 = .ok (.aload_n 0, 1) := by decide +kernel
theorem dX6_feed_27 : decode cX6_feed 27 = .ok (.getfield 10, 3) := by decide +kernel
theorem dX6_feed_30 : decode cX6_feed 30 = .ok (.iload_n 2, 1) := by decide +kernel
theorem dX6_feed_31 : decode cX6_feed 31 = .ok (.invokevirtual 53, 3) := by decide +kernel
theorem dX6_feed_34 : decode cX6_feed 34 = .ok (.aload_n 0, 1) := by decide +kernel
theorem dX6_feed_35 : decode cX6_feed 35 = .ok (.getfield 10, 3) := by decide +kernel
theorem dX6_feed_38 : decode cX6_feed 38 = .ok (.iload_n 3, 1) := by decide +kernel
theorem dX6_feed_39 : decode cX6_feed 39 = .ok (.invokevirtual 53, 3) := by decide +kernel
theorem dX6_feed_42 : decode cX6_feed 42 = .ok (.aload_n 0, 1) := by decide +kernel
theorem dX6_feed_43 : decode cX6_feed 43 = .ok (.getfield 10, 3) := by decide +kernel
theorem dX6_feed_46 : decode cX6_feed 46 = .ok (.iload 4, 2) := by decide +kernel
theorem dX6_feed_48 : decode cX6_feed 48 = .ok (.invokevirtual 53, 3) := by decide +kernel
theorem dX6_feed_51 : decode cX6_feed 51 = .ok (.aload_n 0, 1) := by decide +kernel
theorem dX6_feed_52 : decode cX6_feed 52 = .ok (.getfield 10, 3) := by decide +kernel
theorem dX6_feed_55 : decode cX6_feed 55 = .ok (.iload 5, 2) := by decide +kernel
theorem dX6_feed_57 : decode cX6_feed 57 = .ok (.invokevirtual 53, 3) := by decide +kernel
theorem dX6_feed_60 : decode cX6_feed 60 = .ok (.aload_n 0, 1) := by decide +kernel
theorem dX6_feed_61 : decode cX6_feed 61 = .ok (.getfield 10, 3) := by decide +kernel
theorem dX6_feed_64 : decode cX6_feed 64 = .ok (.getfield 49, 3) := by decide +kernel
theorem dX6_feed_67 : decode cX6_feed 67 = .ok (.ireturn, 1) := by decide +kernel
theorem dX6_end_0 : decode cX6_end 0 = .ok (.iload_n 1, 1) := by decide +kernel
theorem dX6_end_1 : decode cX6_end 1 = .ok (.ifCond .lt 14, 3) := by decide +kernel
theorem dX6_end_4 : decode cX6_end 4 = .ok (.iload_n 1, 1) := by decide +kernel
theorem dX6_end_5 : decode cX6_end 5 = .ok (.aload_n 0, 1) := by decide +kernel
theorem dX6_end_6 : decode cX6_end 6 = .ok (.getfield 10, 3) := by decide +kernel
theorem dX6_end_9 : decode cX6_end 9 = .ok (.getfield 49, 3) := by decide +kernel
theorem dX6_end_12 : decode cX6_end 12 = .ok (.if_icmp .le 5, 3) := by decide +kernel
theorem dX6_end_15 : decode cX6_end 15 = .ok (.iconst (-1), 1) := by decide +kernel
theorem dX6_end_16 : decode cX6_end 16 = .ok (.ireturn, 1) := by decide +kernel
theorem dX6_end_17 : decode cX6_end 17 = .ok (.aload_n 0, 1) := by decide +kernel
theorem dX6_end_18 : decode cX6_end 18 = .ok (.getfield 10, 3) := by decide +kernel
theorem dX6_end_21 : decode cX6_end 21 = .ok (.iload_n 1, 1) := by decide +kernel
theorem dX6_end_22 : decode cX6_end 22 = .ok (.putfield 49, 3) := by decide +kernel
theorem dX6_end_25 : decode cX6_end 25 = .ok (.iload_n 1, 1) := by decide +kernel
theorem dX6_end_26 : decode cX6_end 26 = .ok (.ireturn, 1) := by decide +kernel
theorem dX6_store_0 : decode cX6_store 0 = .ok (.new 57, 3) := by decide +kernel
theorem dX6_store_3 : decode cX6_store 3 = .ok (.dup, 1) := by decide +kernel
theorem dX6_store_4 : decode cX6_store 4 = .ok (.aload_n 0, 1) := by decide +kernel
theorem dX6_store_5 : decode cX6_store 5 = .ok (.getfield 10, 3) := by decide +kernel
theorem dX6_store_8 : decode cX6_store 8 = .ok (.aload_n 0, 1) := by decide +kernel
theorem dX6_store_9 : decode cX6_store 9 = .ok (.getfield 30, 3) := by decide +kernel
theorem dX6_store_12 : decode cX6_store 12 = .ok (.invokespecial 59, 3) := by decide +kernel
theorem dX6_store_15 : decode cX6_store 15 = .ok (.invokevirtual 62, 3) := by decide +kernel
theorem dX6_store_18 : decode cX6_store 18 = .ok (.istore_n 1, 1) := by decide +kernel
theorem dX6_store_19 : decode cX6_store 19 = .ok (.aload_n 0, 1) := by decide +kernel
theorem dX6_store_20 : decode cX6_store 20 = .ok (.getfield 10, 3) := by decide +kernel
theorem dX6_store_23 : decode cX6_store 23 = .ok (.iconst 0, 1) := by decide +kernel
theorem dX6_store_24 : decode cX6_store 24 = .ok (.putfield 49, 3) := by decide +kernel
theorem dX6_store_27 : decode cX6_store 27 = .ok (.iload_n 1, 1) := by decide +kernel
theorem dX6_store_28 : decode cX6_store 28 = .ok (.ifCond .ne 5, 3) := by decide +kernel
theorem dX6_store_31 : decode cX6_store 31 = .ok (.iconst (-1), 1) := by decide +kernel
theorem dX6_store_32 : decode cX6_store 32 = .ok (.ireturn, 1) := by decide +kernel
theorem dX6_store_33 : decode cX6_store 33 = .ok (.aload_n 0, 1) := by decide +kernel
theorem dX6_store_34 : decode cX6_store 34 = .ok (.getfield 26, 3) := by decide +kernel
theorem dX6_store_37 : decode cX6_store 37 = .ok (.astore_n 2, 1) := by decide +kernel
theorem dX6_store_38 : decode cX6_store 38 = .ok (.aload_n 0, 1) := by decide +kernel
theorem dX6_store_39 : decode cX6_store 39 = .ok (.aload_n 0, 1) := by decide +kernel
theorem dX6_store_40 : decode cX6_store 40 = .ok (.getfield 30, 3) := by decide +kernel
theorem dX6_store_43 : decode cX6_store 43 = .ok (.putfield 26, 3) := by decide +kernel
theorem dX6_store_46 : decode cX6_store 46 = .ok (.aload_n 0, 1) := by decide +kernel
theorem dX6_store_47 : decode cX6_store 47 = .ok (.aload_n 2, 1) := by decide +kernel
theorem dX6_store_48 : decode cX6_store 48 = .ok (.putfield 30, 3) := by decide +kernel
theorem dX6_store_51 : decode cX6_store 51 = .ok (.aload_n 0, 1) := by decide +kernel
theorem dX6_store_52 : decode cX6_store 52 = .ok (.getfield 36, 3) := by decide +kernel
theorem dX6_store_55 : decode cX6_store 55 = .ok (.invokevirtual 66, 3) := by decide +kernel
theorem dX6_store_58 : decode cX6_store 58 = .ok (.aload_n 0, 1) := by decide +kernel
theorem dX6_store_59 : decode cX6_store 59 = .ok (.iconst 0, 1) := by decide +kernel
theorem dX6_store_60 : decode cX6_store 60 = .ok (.putfield 69, 3) := by decide +kernel
theorem dX6_store_63 : decode cX6_store 63 = .ok (.aload_n 0, 1) := by decide +kernel
theorem dX6_store_64 : decode cX6_store 64 = .ok (.iconst 0, 1) := by decide +kernel
theorem dX6_store_65 : decode cX6_store 65 = .ok (.putfield 72, 3) := by decide +kernel
theorem dX6_store_68 : decode cX6_store 68 = .ok (.aload_n 0, 1) := by decide +kernel
theorem dX6_store_69 : decode cX6_store 69 = .ok (.getfield 16, 3) := by decide +kernel
theorem dX6_store_72 : decode cX6_store 72 = .ok (.iconst (-1), 1) := by decide +kernel
theorem dX6_store_73 : decode cX6_store 73 = .ok (.invokestatic 43, 3) := by decide +kernel
theorem dX6_store_76 : decode cX6_store 76 = .ok (.aload_n 0, 1) := by decide +kernel
theorem dX6_store_77 : decode cX6_store 77 = .ok (.invokevirtual 75, 3) := by decide +kernel
theorem dX6_store_80 : decode cX6_store 80 = .ok (.aload_n 0, 1) := by decide +kernel
theorem dX6_store_81 : decode cX6_store 81 = .ok (.getfield 26, 3) := by decide +kernel
theorem dX6_store_84 : decode cX6_store 84 = .ok (.getfield 78, 3) := by decide +kernel
theorem dX6_store_87 : decode cX6_store 87 = .ok (.ireturn, 1) := by decide +kernel
theorem dX6_wishes_0 : decode cX6_wishes 0 = .ok (.aload_n 0, 1) := by decide +kernel
theorem dX6_wishes_1 : decode cX6_wishes 1 = .ok (.getfield 10, 3) := by decide +kernel
theorem dX6_wishes_4 : decode cX6_wishes 4 = .ok (.getfield 49, 3) := by decide +kernel
theorem dX6_wishes_7 : decode cX6_wishes 7 = .ok (.sipush 600, 3) := by decide +kernel
theorem dX6_wishes_10 : decode cX6_wishes 10 = .ok (.if_icmp .le 6, 3) := by decide +kernel
theorem dX6_wishes_13 : decode cX6_wishes 13 = .ok (.bipush (-2), 2) := by decide +kernel
theorem dX6_wishes_15 : decode cX6_wishes 15 = .ok (.ireturn, 1) := by decide +kernel
theorem dX6_wishes_16 : decode cX6_wishes 16 = .ok (.new 81, 3) := by decide +kernel
theorem dX6_wishes_19 : decode cX6_wishes 19 = .ok (.dup, 1) := by decide +kernel
theorem dX6_wishes_20 : decode cX6_wishes 20 = .ok (.aload_n 0, 1) := by decide +kernel
theorem dX6_wishes_21 : decode cX6_wishes 21 = .ok (.getfield 10, 3) := by decide +kernel
theorem dX6_wishes_24 : decode cX6_wishes 24 = .ok (.aload_n 0, 1) := by decide +kernel
theorem dX6_wishes_25 : decode cX6_wishes 25 = .ok (.getfield 26, 3) := by decide +kernel
theorem dX6_wishes_28 : decode cX6_wishes 28 = .ok (.aload_n 0, 1) := by decide +kernel
theorem dX6_wishes_29 : decode cX6_wishes 29 = .ok (.getfield 40, 3) := by decide +kernel
theorem dX6_wishes_32 : decode cX6_wishes 32 = .ok (.invokespecial 83, 3) := by decide +kernel
theorem dX6_wishes_35 : decode cX6_wishes 35 = .ok (.invokevirtual 86, 3) := by decide +kernel
theorem dX6_wishes_38 : decode cX6_wishes 38 = .ok (.istore_n 1, 1) := by decide +kernel
theorem dX6_wishes_39 : decode cX6_wishes 39 = .ok (.aload_n 0, 1) := by decide +kernel
theorem dX6_wishes_40 : decode cX6_wishes 40 = .ok (.getfield 10, 3) := by decide +kernel
theorem dX6_wishes_43 : decode cX6_wishes 43 = .ok (.iconst 0, 1) := by decide +kernel
theorem dX6_wishes_44 : decode cX6_wishes 44 = .ok (.putfield 49, 3) := by decide +kernel
theorem dX6_wishes_47 : decode cX6_wishes 47 = .ok (.iload_n 1, 1) := by decide +kernel
theorem dX6_wishes_48 : decode cX6_wishes 48 = .ok (.ifCond .ne 5, 3) := by decide +kernel
theorem dX6_wishes_51 : decode cX6_wishes 51 = .ok (.iconst (-1), 1) := by decide +kernel
theorem dX6_wishes_52 : decode cX6_wishes 52 = .ok (.ireturn, 1) := by decide +kernel
theorem dX6_wishes_53 : decode cX6_wishes 53 = .ok (.aload_n 0, 1) := by decide +kernel
theorem dX6_wishes_54 : decode cX6_wishes 54 = .ok (.getfield 36, 3) := by decide +kernel
theorem dX6_wishes_57 : decode cX6_wishes 57 = .ok (.astore_n 2, 1) := by decide +kernel
theorem dX6_wishes_58 : decode cX6_wishes 58 = .ok (.aload_n 0, 1) := by decide +kernel
theorem dX6_wishes_59 : decode cX6_wishes 59 = .ok (.aload_n 0, 1) := by decide +kernel
theorem dX6_wishes_60 : decode cX6_wishes 60 = .ok (.getfield 40, 3) := by decide +kernel
theorem dX6_wishes_63 : decode cX6_wishes 63 = .ok (.putfield 36, 3) := by decide +kernel
theorem dX6_wishes_66 : decode cX6_wishes 66 = .ok (.aload_n 0, 1) := by decide +kernel
theorem dX6_wishes_67 : decode cX6_wishes 67 = .ok (.aload_n 2, 1) := by decide +kernel
theorem dX6_wishes_68 : decode cX6_wishes 68 = .ok (.putfield 40, 3) := by decide +kernel
theorem dX6_wishes_71 : decode cX6_wishes 71 = .ok (.aload_n 0, 1) := by decide +kernel
theorem dX6_wishes_72 : decode cX6_wishes 72 = .ok (.getfield 36, 3) := by decide +kernel
theorem dX6_wishes_75 : decode cX6_wishes 75 = .ok (.aload_n 0, 1) := by decide +kernel
theorem dX6_wishes_76 : decode cX6_wishes 76 = .ok (.getfield 69, 3) := by decide +kernel
theorem dX6_wishes_79 : decode cX6_wishes 79 = .ok (.invokevirtual 87, 3) := by decide +kernel
theorem dX6_wishes_82 : decode cX6_wishes 82 = .ok (.aload_n 0, 1) := by decide +kernel
theorem dX6_wishes_83 : decode cX6_wishes 83 = .ok (.invokevirtual 75, 3) := by decide +kernel
theorem dX6_wishes_86 : decode cX6_wishes 86 = .ok (.aload_n 0, 1) := by decide +kernel
theorem dX6_wishes_87 : decode cX6_wishes 87 = .ok (.getfield 36, 3) := by decide +kernel
theorem dX6_wishes_90 : decode cX6_wishes 90 = .ok (.getfield 90, 3) := by decide +kernel
theorem dX6_wishes_93 : decode cX6_wishes 93 = .ok (.ireturn, 1) := by decide +kernel
theorem dX6_fault_0 : decode cX6_fault 0 = .ok (.iload_n 1, 1) := by decide +kernel
theorem dX6_fault_1 : decode cX6_fault 1 = .ok (.ifCond .ne 11, 3) := by decide +kernel
theorem dX6_fault_4 : decode cX6_fault 4 = .ok (.aload_n 0, 1) := by decide +kernel
theorem dX6_fault_5 : decode cX6_fault 5 = .ok (.getfield 10, 3) := by decide +kernel
theorem dX6_fault_8 : decode cX6_fault 8 = .ok (.getfield 93, 3) := by decide +kernel
theorem dX6_fault_11 : decode cX6_fault 11 = .ok (.ireturn, 1) := by decide +kernel
theorem dX6_fault_12 : decode cX6_fault 12 = .ok (.iload_n 1, 1) := by decide +kernel
theorem dX6_fault_13 : decode cX6_fault 13 = .ok (.iconst 1, 1) := by decide +kernel
theorem dX6_fault_14 : decode cX6_fault 14 = .ok (.if_icmp .ne 13, 3) := by decide +kernel
theorem dX6_fault_17 : decode cX6_fault 17 = .ok (.aload_n 0, 1) := by decide +kernel
theorem dX6_fault_18 : decode cX6_fault 18 = .ok (.getfield 10, 3) := by decide +kernel
theorem dX6_fault_21 : decode cX6_fault 21 = .ok (.getfield 96, 3) := by decide +kernel
theorem dX6_fault_24 : decode cX6_fault 24 = .ok (.goto 4, 3) := by decide +kernel
theorem dX6_fault_27 : decode cX6_fault 27 = .ok (.iconst (-1), 1) := by decide +kernel
theorem dX6_fault_28 : decode cX6_fault 28 = .ok (.ireturn, 1) := by decide +kernel
theorem dX6_row_0 : decode cX6_row 0 = .ok (.aload_n 0, 1) := by decide +kernel
theorem dX6_row_1 : decode cX6_row 1 = .ok (.getfield 26, 3) := by decide +kernel
theorem dX6_row_4 : decode cX6_row 4 = .ok (.iload_n 1, 1) := by decide +kernel
theorem dX6_row_5 : decode cX6_row 5 = .ok (.invokevirtual 99, 3) := by decide +kernel
theorem dX6_row_8 : decode cX6_row 8 = .ok (.ifCond .ne 5, 3) := by decide +kernel
theorem dX6_row_11 : decode cX6_row 11 = .ok (.iconst (-1), 1) := by decide +kernel
theorem dX6_row_12 : decode cX6_row 12 = .ok (.ireturn, 1) := by decide +kernel
theorem dX6_row_13 : decode cX6_row 13 = .ok (.iload_n 2, 1) := by decide +kernel
theorem dX6_row_14 : decode cX6_row 14 = .ok (.tableswitch 63 0 2 #[26, 36, 46], 26) := by decide +kernel
theorem dX6_row_40 : decode cX6_row 40 = .ok (.aload_n 0, 1) := by decide +kernel
theorem dX6_row_41 : decode cX6_row 41 = .ok (.getfield 26, 3) := by decide +kernel
theorem dX6_row_44 : decode cX6_row 44 = .ok (.getfield 103, 3) := by decide +kernel
theorem dX6_row_47 : decode cX6_row 47 = .ok (.iload_n 1, 1) := by decide +kernel
theorem dX6_row_48 : decode cX6_row 48 = .ok (.iaload, 1) := by decide +kernel
theorem dX6_row_49 : decode cX6_row 49 = .ok (.ireturn, 1) := by decide +kernel
theorem dX6_row_50 : decode cX6_row 50 = .ok (.aload_n 0, 1) := by decide +kernel
theorem dX6_row_51 : decode cX6_row 51 = .ok (.getfield 26, 3) := by decide +kernel
theorem dX6_row_54 : decode cX6_row 54 = .ok (.getfield 106, 3) := by decide +kernel
theorem dX6_row_57 : decode cX6_row 57 = .ok (.iload_n 1, 1) := by decide +kernel
theorem dX6_row_58 : decode cX6_row 58 = .ok (.iaload, 1) := by decide +kernel
theorem dX6_row_59 : decode cX6_row 59 = .ok (.ireturn, 1) := by decide +kernel
theorem dX6_row_60 : decode cX6_row 60 = .ok (.aload_n 0, 1) := by decide +kernel
theorem dX6_row_61 : decode cX6_row 61 = .ok (.getfield 69, 3) := by decide +kernel
theorem dX6_row_64 : decode cX6_row 64 = .ok (.iload_n 1, 1) := by decide +kernel
theorem dX6_row_65 : decode cX6_row 65 = .ok (.invokestatic 109, 3) := by decide +kernel
theorem dX6_row_68 : decode cX6_row 68 = .ok (.ifCond .eq 7, 3) := by decide +kernel
theorem dX6_row_71 : decode cX6_row 71 = .ok (.iconst 1, 1) := by decide +kernel
theorem dX6_row_72 : decode cX6_row 72 = .ok (.goto 4, 3) := by decide +kernel
theorem dX6_row_75 : decode cX6_row 75 = .ok (.iconst 0, 1) := by decide +kernel
theorem dX6_row_76 : decode cX6_row 76 = .ok (.ireturn, 1) := by decide +kernel
theorem dX6_row_77 : decode cX6_row 77 = .ok (.iconst (-1), 1) := by decide +kernel
theorem dX6_row_78 : decode cX6_row 78 = .ok (.ireturn, 1) := by decide +kernel
theorem dX6_value_0 : decode cX6_value 0 = .ok (.aload_n 0, 1) := by decide +kernel
theorem dX6_value_1 : decode cX6_value 1 = .ok (.getfield 26, 3) := by decide +kernel
theorem dX6_value_4 : decode cX6_value 4 = .ok (.iload_n 1, 1) := by decide +kernel
theorem dX6_value_5 : decode cX6_value 5 = .ok (.iload_n 2, 1) := by decide +kernel
theorem dX6_value_6 : decode cX6_value 6 = .ok (.invokevirtual 113, 3) := by decide +kernel
theorem dX6_value_9 : decode cX6_value 9 = .ok (.ireturn, 1) := by decide +kernel
theorem dX6_holds_0 : decode cX6_holds 0 = .ok (.aload_n 0, 1) := by decide +kernel
theorem dX6_holds_1 : decode cX6_holds 1 = .ok (.getfield 36, 3) := by decide +kernel
theorem dX6_holds_4 : decode cX6_holds 4 = .ok (.iload_n 1, 1) := by decide +kernel
theorem dX6_holds_5 : decode cX6_holds 5 = .ok (.invokevirtual 117, 3) := by decide +kernel
theorem dX6_holds_8 : decode cX6_holds 8 = .ok (.ifCond .eq 14, 3) := by decide +kernel
theorem dX6_holds_11 : decode cX6_holds 11 = .ok (.aload_n 0, 1) := by decide +kernel
theorem dX6_holds_12 : decode cX6_holds 12 = .ok (.getfield 26, 3) := by decide +kernel
theorem dX6_holds_15 : decode cX6_holds 15 = .ok (.iload_n 2, 1) := by decide +kernel
theorem dX6_holds_16 : decode cX6_holds 16 = .ok (.invokevirtual 99, 3) := by decide +kernel
theorem dX6_holds_19 : decode cX6_holds 19 = .ok (.ifCond .ne 5, 3) := by decide +kernel
theorem dX6_holds_22 : decode cX6_holds 22 = .ok (.iconst (-1), 1) := by decide +kernel
theorem dX6_holds_23 : decode cX6_holds 23 = .ok (.ireturn, 1) := by decide +kernel
theorem dX6_holds_24 : decode cX6_holds 24 = .ok (.aload_n 0, 1) := by decide +kernel
theorem dX6_holds_25 : decode cX6_holds 25 = .ok (.getfield 26, 3) := by decide +kernel
theorem dX6_holds_28 : decode cX6_holds 28 = .ok (.getfield 103, 3) := by decide +kernel
theorem dX6_holds_31 : decode cX6_holds 31 = .ok (.iload_n 2, 1) := by decide +kernel
theorem dX6_holds_32 : decode cX6_holds 32 = .ok (.iaload, 1) := by decide +kernel
theorem dX6_holds_33 : decode cX6_holds 33 = .ok (.aload_n 0, 1) := by decide +kernel
theorem dX6_holds_34 : decode cX6_holds 34 = .ok (.getfield 36, 3) := by decide +kernel
theorem dX6_holds_37 : decode cX6_holds 37 = .ok (.getfield 120, 3) := by decide +kernel
theorem dX6_holds_40 : decode cX6_holds 40 = .ok (.iload_n 1, 1) := by decide +kernel
theorem dX6_holds_41 : decode cX6_holds 41 = .ok (.iaload, 1) := by decide +kernel
theorem dX6_holds_42 : decode cX6_holds 42 = .ok (.if_icmp .eq 5, 3) := by decide +kernel
theorem dX6_holds_45 : decode cX6_holds 45 = .ok (.iconst (-1), 1) := by decide +kernel
theorem dX6_holds_46 : decode cX6_holds 46 = .ok (.ireturn, 1) := by decide +kernel
theorem dX6_holds_47 : decode cX6_holds 47 = .ok (.aload_n 0, 1) := by decide +kernel
theorem dX6_holds_48 : decode cX6_holds 48 = .ok (.getfield 36, 3) := by decide +kernel
theorem dX6_holds_51 : decode cX6_holds 51 = .ok (.getfield 123, 3) := by decide +kernel
theorem dX6_holds_54 : decode cX6_holds 54 = .ok (.iload_n 1, 1) := by decide +kernel
theorem dX6_holds_55 : decode cX6_holds 55 = .ok (.iaload, 1) := by decide +kernel
theorem dX6_holds_56 : decode cX6_holds 56 = .ok (.iload_n 2, 1) := by decide +kernel
theorem dX6_holds_57 : decode cX6_holds 57 = .ok (.invokestatic 109, 3) := by decide +kernel
theorem dX6_holds_60 : decode cX6_holds 60 = .ok (.ifCond .eq 7, 3) := by decide +kernel
theorem dX6_holds_63 : decode cX6_holds 63 = .ok (.iconst 1, 1) := by decide +kernel
theorem dX6_holds_64 : decode cX6_holds 64 = .ok (.goto 4, 3) := by decide +kernel
theorem dX6_holds_67 : decode cX6_holds 67 = .ok (.iconst 0, 1) := by decide +kernel
theorem dX6_holds_68 : decode cX6_holds 68 = .ok (.ireturn, 1) := by decide +kernel
theorem dX6_gone_0 : decode cX6_gone 0 = .ok (.aload_n 0, 1) := by decide +kernel
theorem dX6_gone_1 : decode cX6_gone 1 = .ok (.getfield 26, 3) := by decide +kernel
theorem dX6_gone_4 : decode cX6_gone 4 = .ok (.iload_n 1, 1) := by decide +kernel
theorem dX6_gone_5 : decode cX6_gone 5 = .ok (.invokevirtual 99, 3) := by decide +kernel
theorem dX6_gone_8 : decode cX6_gone 8 = .ok (.ifCond .eq 31, 3) := by decide +kernel
theorem dX6_gone_11 : decode cX6_gone 11 = .ok (.aload_n 0, 1) := by decide +kernel
theorem dX6_gone_12 : decode cX6_gone 12 = .ok (.getfield 69, 3) := by decide +kernel
theorem dX6_gone_15 : decode cX6_gone 15 = .ok (.iload_n 1, 1) := by decide +kernel
theorem dX6_gone_16 : decode cX6_gone 16 = .ok (.invokestatic 109, 3) := by decide +kernel
theorem dX6_gone_19 : decode cX6_gone 19 = .ok (.ifCond .ne 20, 3) := by decide +kernel
theorem dX6_gone_22 : decode cX6_gone 22 = .ok (.aload_n 0, 1) := by decide +kernel
theorem dX6_gone_23 : decode cX6_gone 23 = .ok (.getfield 26, 3) := by decide +kernel
theorem dX6_gone_26 : decode cX6_gone 26 = .ok (.aload_n 0, 1) := by decide +kernel
theorem dX6_gone_27 : decode cX6_gone 27 = .ok (.getfield 69, 3) := by decide +kernel
theorem dX6_gone_30 : decode cX6_gone 30 = .ok (.iconst (-1), 1) := by decide +kernel
theorem dX6_gone_31 : decode cX6_gone 31 = .ok (.ixor, 1) := by decide +kernel
theorem dX6_gone_32 : decode cX6_gone 32 = .ok (.iload_n 1, 1) := by decide +kernel
theorem dX6_gone_33 : decode cX6_gone 33 = .ok (.invokevirtual 126, 3) := by decide +kernel
theorem dX6_gone_36 : decode cX6_gone 36 = .ok (.ifCond .eq 5, 3) := by decide +kernel
theorem dX6_gone_39 : decode cX6_gone 39 = .ok (.iconst 0, 1) := by decide +kernel
theorem dX6_gone_40 : decode cX6_gone 40 = .ok (.ireturn, 1) := by decide +kernel
theorem dX6_gone_41 : decode cX6_gone 41 = .ok (.aload_n 0, 1) := by decide +kernel
theorem dX6_gone_42 : decode cX6_gone 42 = .ok (.dup, 1) := by decide +kernel
theorem dX6_gone_43 : decode cX6_gone 43 = .ok (.getfield 69, 3) := by decide +kernel
theorem dX6_gone_46 : decode cX6_gone 46 = .ok (.iconst 1, 1) := by decide +kernel
theorem dX6_gone_47 : decode cX6_gone 47 = .ok (.iload_n 1, 1) := by decide +kernel
theorem dX6_gone_48 : decode cX6_gone 48 = .ok (.ishl, 1) := by decide +kernel
theorem dX6_gone_49 : decode cX6_gone 49 = .ok (.ior, 1) := by decide +kernel
theorem dX6_gone_50 : decode cX6_gone 50 = .ok (.putfield 69, 3) := by decide +kernel
theorem dX6_gone_53 : decode cX6_gone 53 = .ok (.aload_n 0, 1) := by decide +kernel
theorem dX6_gone_54 : decode cX6_gone 54 = .ok (.getfield 36, 3) := by decide +kernel
theorem dX6_gone_57 : decode cX6_gone 57 = .ok (.aload_n 0, 1) := by decide +kernel
theorem dX6_gone_58 : decode cX6_gone 58 = .ok (.getfield 69, 3) := by decide +kernel
theorem dX6_gone_61 : decode cX6_gone 61 = .ok (.invokevirtual 87, 3) := by decide +kernel
theorem dX6_gone_64 : decode cX6_gone 64 = .ok (.aload_n 0, 1) := by decide +kernel
theorem dX6_gone_65 : decode cX6_gone 65 = .ok (.invokevirtual 75, 3) := by decide +kernel
theorem dX6_gone_68 : decode cX6_gone 68 = .ok (.iconst 1, 1) := by decide +kernel
theorem dX6_gone_69 : decode cX6_gone 69 = .ok (.ireturn, 1) := by decide +kernel
theorem dX6_least_0 : decode cX6_least 0 = .ok (.aload_n 0, 1) := by decide +kernel
theorem dX6_least_1 : decode cX6_least 1 = .ok (.getfield 129, 3) := by decide +kernel
theorem dX6_least_4 : decode cX6_least 4 = .ok (.ifCond .ne 66, 3) := by decide +kernel
theorem dX6_least_7 : decode cX6_least 7 = .ok (.aload_n 0, 1) := by decide +kernel
theorem dX6_least_8 : decode cX6_least 8 = .ok (.new 133, 3) := by decide +kernel
theorem dX6_least_11 : decode cX6_least 11 = .ok (.dup, 1) := by decide +kernel
theorem dX6_least_12 : decode cX6_least 12 = .ok (.aload_n 0, 1) := by decide +kernel
theorem dX6_least_13 : decode cX6_least 13 = .ok (.getfield 26, 3) := by decide +kernel
theorem dX6_least_16 : decode cX6_least 16 = .ok (.aload_n 0, 1) := by decide +kernel
theorem dX6_least_17 : decode cX6_least 17 = .ok (.getfield 36, 3) := by decide +kernel
theorem dX6_least_20 : decode cX6_least 20 = .ok (.aload_n 0, 1) := by decide +kernel
theorem dX6_least_21 : decode cX6_least 21 = .ok (.getfield 69, 3) := by decide +kernel
theorem dX6_least_24 : decode cX6_least 24 = .ok (.iconst 0, 1) := by decide +kernel
theorem dX6_least_25 : decode cX6_least 25 = .ok (.invokespecial 135, 3) := by decide +kernel
theorem dX6_least_28 : decode cX6_least 28 = .ok (.invokevirtual 138, 3) := by decide +kernel
theorem dX6_least_31 : decode cX6_least 31 = .ok (.putfield 142, 3) := by decide +kernel
theorem dX6_least_34 : decode cX6_least 34 = .ok (.aload_n 0, 1) := by decide +kernel
theorem dX6_least_35 : decode cX6_least 35 = .ok (.iconst 1, 1) := by decide +kernel
theorem dX6_least_36 : decode cX6_least 36 = .ok (.putfield 129, 3) := by decide +kernel
theorem dX6_least_39 : decode cX6_least 39 = .ok (.aload_n 0, 1) := by decide +kernel
theorem dX6_least_40 : decode cX6_least 40 = .ok (.aload_n 0, 1) := by decide +kernel
theorem dX6_least_41 : decode cX6_least 41 = .ok (.getfield 142, 3) := by decide +kernel
theorem dX6_least_44 : decode cX6_least 44 = .ok (.iconst (-1), 1) := by decide +kernel
theorem dX6_least_45 : decode cX6_least 45 = .ok (.if_icmp .ne 7, 3) := by decide +kernel
theorem dX6_least_48 : decode cX6_least 48 = .ok (.iconst 0, 1) := by decide +kernel
theorem dX6_least_49 : decode cX6_least 49 = .ok (.goto 18, 3) := by decide +kernel
theorem dX6_least_52 : decode cX6_least 52 = .ok (.aload_n 0, 1) := by decide +kernel
theorem dX6_least_53 : decode cX6_least 53 = .ok (.getfield 26, 3) := by decide +kernel
theorem dX6_least_56 : decode cX6_least 56 = .ok (.aload_n 0, 1) := by decide +kernel
theorem dX6_least_57 : decode cX6_least 57 = .ok (.getfield 142, 3) := by decide +kernel
theorem dX6_least_60 : decode cX6_least 60 = .ok (.aload_n 0, 1) := by decide +kernel
theorem dX6_least_61 : decode cX6_least 61 = .ok (.getfield 20, 3) := by decide +kernel
theorem dX6_least_64 : decode cX6_least 64 = .ok (.invokevirtual 145, 3) := by decide +kernel
theorem dX6_least_67 : decode cX6_least 67 = .ok (.putfield 149, 3) := by decide +kernel
theorem dX6_least_70 : decode cX6_least 70 = .ok (.aload_n 0, 1) := by decide +kernel
theorem dX6_least_71 : decode cX6_least 71 = .ok (.getfield 142, 3) := by decide +kernel
theorem dX6_least_74 : decode cX6_least 74 = .ok (.ireturn, 1) := by decide +kernel
theorem dX6_keep_0 : decode cX6_keep 0 = .ok (.aload_n 0, 1) := by decide +kernel
theorem dX6_keep_1 : decode cX6_keep 1 = .ok (.invokevirtual 152, 3) := by decide +kernel
theorem dX6_keep_4 : decode cX6_keep 4 = .ok (.istore_n 1, 1) := by decide +kernel
theorem dX6_keep_5 : decode cX6_keep 5 = .ok (.iload_n 1, 1) := by decide +kernel
theorem dX6_keep_6 : decode cX6_keep 6 = .ok (.iconst (-1), 1) := by decide +kernel
theorem dX6_keep_7 : decode cX6_keep 7 = .ok (.if_icmp .ne 5, 3) := by decide +kernel
theorem dX6_keep_10 : decode cX6_keep 10 = .ok (.iconst 0, 1) := by decide +kernel
theorem dX6_keep_11 : decode cX6_keep 11 = .ok (.ireturn, 1) := by decide +kernel
theorem dX6_keep_12 : decode cX6_keep 12 = .ok (.aload_n 0, 1) := by decide +kernel
theorem dX6_keep_13 : decode cX6_keep 13 = .ok (.iload_n 1, 1) := by decide +kernel
theorem dX6_keep_14 : decode cX6_keep 14 = .ok (.putfield 72, 3) := by decide +kernel
theorem dX6_keep_17 : decode cX6_keep 17 = .ok (.aload_n 0, 1) := by decide +kernel
theorem dX6_keep_18 : decode cX6_keep 18 = .ok (.iconst 0, 1) := by decide +kernel
theorem dX6_keep_19 : decode cX6_keep 19 = .ok (.putfield 155, 3) := by decide +kernel
theorem dX6_keep_22 : decode cX6_keep 22 = .ok (.iconst 1, 1) := by decide +kernel
theorem dX6_keep_23 : decode cX6_keep 23 = .ok (.ireturn, 1) := by decide +kernel
theorem dX6_steady_0 : decode cX6_steady 0 = .ok (.aload_n 0, 1) := by decide +kernel
theorem dX6_steady_1 : decode cX6_steady 1 = .ok (.getfield 155, 3) := by decide +kernel
theorem dX6_steady_4 : decode cX6_steady 4 = .ok (.ifCond .ne 38, 3) := by decide +kernel
theorem dX6_steady_7 : decode cX6_steady 7 = .ok (.aload_n 0, 1) := by decide +kernel
theorem dX6_steady_8 : decode cX6_steady 8 = .ok (.new 133, 3) := by decide +kernel
theorem dX6_steady_11 : decode cX6_steady 11 = .ok (.dup, 1) := by decide +kernel
theorem dX6_steady_12 : decode cX6_steady 12 = .ok (.aload_n 0, 1) := by decide +kernel
theorem dX6_steady_13 : decode cX6_steady 13 = .ok (.getfield 26, 3) := by decide +kernel
theorem dX6_steady_16 : decode cX6_steady 16 = .ok (.aload_n 0, 1) := by decide +kernel
theorem dX6_steady_17 : decode cX6_steady 17 = .ok (.getfield 36, 3) := by decide +kernel
theorem dX6_steady_20 : decode cX6_steady 20 = .ok (.aload_n 0, 1) := by decide +kernel
theorem dX6_steady_21 : decode cX6_steady 21 = .ok (.getfield 69, 3) := by decide +kernel
theorem dX6_steady_24 : decode cX6_steady 24 = .ok (.aload_n 0, 1) := by decide +kernel
theorem dX6_steady_25 : decode cX6_steady 25 = .ok (.getfield 72, 3) := by decide +kernel
theorem dX6_steady_28 : decode cX6_steady 28 = .ok (.invokespecial 135, 3) := by decide +kernel
theorem dX6_steady_31 : decode cX6_steady 31 = .ok (.invokevirtual 138, 3) := by decide +kernel
theorem dX6_steady_34 : decode cX6_steady 34 = .ok (.putfield 158, 3) := by decide +kernel
theorem dX6_steady_37 : decode cX6_steady 37 = .ok (.aload_n 0, 1) := by decide +kernel
theorem dX6_steady_38 : decode cX6_steady 38 = .ok (.iconst 1, 1) := by decide +kernel
theorem dX6_steady_39 : decode cX6_steady 39 = .ok (.putfield 155, 3) := by decide +kernel
theorem dX6_steady_42 : decode cX6_steady 42 = .ok (.aload_n 0, 1) := by decide +kernel
theorem dX6_steady_43 : decode cX6_steady 43 = .ok (.getfield 158, 3) := by decide +kernel
theorem dX6_steady_46 : decode cX6_steady 46 = .ok (.ireturn, 1) := by decide +kernel
theorem dX6_piece_0 : decode cX6_piece 0 = .ok (.iload_n 1, 1) := by decide +kernel
theorem dX6_piece_1 : decode cX6_piece 1 = .ok (.aload_n 0, 1) := by decide +kernel
theorem dX6_piece_2 : decode cX6_piece 2 = .ok (.getfield 26, 3) := by decide +kernel
theorem dX6_piece_5 : decode cX6_piece 5 = .ok (.invokevirtual 161, 3) := by decide +kernel
theorem dX6_piece_8 : decode cX6_piece 8 = .ok (.iconst (-1), 1) := by decide +kernel
theorem dX6_piece_9 : decode cX6_piece 9 = .ok (.ixor, 1) := by decide +kernel
theorem dX6_piece_10 : decode cX6_piece 10 = .ok (.iand, 1) := by decide +kernel
theorem dX6_piece_11 : decode cX6_piece 11 = .ok (.ifCond .eq 5, 3) := by decide +kernel
theorem dX6_piece_14 : decode cX6_piece 14 = .ok (.iconst (-1), 1) := by decide +kernel
theorem dX6_piece_15 : decode cX6_piece 15 = .ok (.ireturn, 1) := by decide +kernel
theorem dX6_piece_16 : decode cX6_piece 16 = .ok (.new 133, 3) := by decide +kernel
theorem dX6_piece_19 : decode cX6_piece 19 = .ok (.dup, 1) := by decide +kernel
theorem dX6_piece_20 : decode cX6_piece 20 = .ok (.aload_n 0, 1) := by decide +kernel
theorem dX6_piece_21 : decode cX6_piece 21 = .ok (.getfield 26, 3) := by decide +kernel
theorem dX6_piece_24 : decode cX6_piece 24 = .ok (.aload_n 0, 1) := by decide +kernel
theorem dX6_piece_25 : decode cX6_piece 25 = .ok (.getfield 36, 3) := by decide +kernel
theorem dX6_piece_28 : decode cX6_piece 28 = .ok (.aload_n 0, 1) := by decide +kernel
theorem dX6_piece_29 : decode cX6_piece 29 = .ok (.getfield 69, 3) := by decide +kernel
theorem dX6_piece_32 : decode cX6_piece 32 = .ok (.iconst 0, 1) := by decide +kernel
theorem dX6_piece_33 : decode cX6_piece 33 = .ok (.invokespecial 135, 3) := by decide +kernel
theorem dX6_piece_36 : decode cX6_piece 36 = .ok (.iload_n 1, 1) := by decide +kernel
theorem dX6_piece_37 : decode cX6_piece 37 = .ok (.invokevirtual 164, 3) := by decide +kernel
theorem dX6_piece_40 : decode cX6_piece 40 = .ok (.ifCond .eq 7, 3) := by decide +kernel
theorem dX6_piece_43 : decode cX6_piece 43 = .ok (.iconst 1, 1) := by decide +kernel
theorem dX6_piece_44 : decode cX6_piece 44 = .ok (.goto 4, 3) := by decide +kernel
theorem dX6_piece_47 : decode cX6_piece 47 = .ok (.iconst 0, 1) := by decide +kernel
theorem dX6_piece_48 : decode cX6_piece 48 = .ok (.ireturn, 1) := by decide +kernel
theorem dX6_why_0 : decode cX6_why 0 = .ok (.aload_n 0, 1) := by decide +kernel
theorem dX6_why_1 : decode cX6_why 1 = .ok (.invokevirtual 152, 3) := by decide +kernel
theorem dX6_why_4 : decode cX6_why 4 = .ok (.istore_n 2, 1) := by decide +kernel
theorem dX6_why_5 : decode cX6_why 5 = .ok (.iload_n 2, 1) := by decide +kernel
theorem dX6_why_6 : decode cX6_why 6 = .ok (.iconst (-1), 1) := by decide +kernel
theorem dX6_why_7 : decode cX6_why 7 = .ok (.if_icmp .eq 14, 3) := by decide +kernel
theorem dX6_why_10 : decode cX6_why 10 = .ok (.aload_n 0, 1) := by decide +kernel
theorem dX6_why_11 : decode cX6_why 11 = .ok (.getfield 26, 3) := by decide +kernel
theorem dX6_why_14 : decode cX6_why 14 = .ok (.iload_n 1, 1) := by decide +kernel
theorem dX6_why_15 : decode cX6_why 15 = .ok (.invokevirtual 99, 3) := by decide +kernel
theorem dX6_why_18 : decode cX6_why 18 = .ok (.ifCond .ne 5, 3) := by decide +kernel
theorem dX6_why_21 : decode cX6_why 21 = .ok (.iconst (-1), 1) := by decide +kernel
theorem dX6_why_22 : decode cX6_why 22 = .ok (.ireturn, 1) := by decide +kernel
theorem dX6_why_23 : decode cX6_why 23 = .ok (.iload_n 2, 1) := by decide +kernel
theorem dX6_why_24 : decode cX6_why 24 = .ok (.iload_n 1, 1) := by decide +kernel
theorem dX6_why_25 : decode cX6_why 25 = .ok (.invokestatic 109, 3) := by decide +kernel
theorem dX6_why_28 : decode cX6_why 28 = .ok (.ifCond .ne 5, 3) := by decide +kernel
theorem dX6_why_31 : decode cX6_why 31 = .ok (.iconst 0, 1) := by decide +kernel
theorem dX6_why_32 : decode cX6_why 32 = .ok (.ireturn, 1) := by decide +kernel
theorem dX6_why_33 : decode cX6_why 33 = .ok (.iload_n 2, 1) := by decide +kernel
theorem dX6_why_34 : decode cX6_why 34 = .ok (.iconst 1, 1) := by decide +kernel
theorem dX6_why_35 : decode cX6_why 35 = .ok (.iload_n 1, 1) := by decide +kernel
theorem dX6_why_36 : decode cX6_why 36 = .ok (.ishl, 1) := by decide +kernel
theorem dX6_why_37 : decode cX6_why 37 = .ok (.iconst (-1), 1) := by decide +kernel
theorem dX6_why_38 : decode cX6_why 38 = .ok (.ixor, 1) := by decide +kernel
theorem dX6_why_39 : decode cX6_why 39 = .ok (.iand, 1) := by decide +kernel
theorem dX6_why_40 : decode cX6_why 40 = .ok (.istore_n 3, 1) := by decide +kernel
theorem dX6_why_41 : decode cX6_why 41 = .ok (.aload_n 0, 1) := by decide +kernel
theorem dX6_why_42 : decode cX6_why 42 = .ok (.getfield 36, 3) := by decide +kernel
theorem dX6_why_45 : decode cX6_why 45 = .ok (.iload_n 3, 1) := by decide +kernel
theorem dX6_why_46 : decode cX6_why 46 = .ok (.invokevirtual 167, 3) := by decide +kernel
theorem dX6_why_49 : decode cX6_why 49 = .ok (.ifCond .ne 5, 3) := by decide +kernel
theorem dX6_why_52 : decode cX6_why 52 = .ok (.iconst 1, 1) := by decide +kernel
theorem dX6_why_53 : decode cX6_why 53 = .ok (.ireturn, 1) := by decide +kernel
theorem dX6_why_54 : decode cX6_why 54 = .ok (.aload_n 0, 1) := by decide +kernel
theorem dX6_why_55 : decode cX6_why 55 = .ok (.getfield 26, 3) := by decide +kernel
theorem dX6_why_58 : decode cX6_why 58 = .ok (.iload_n 3, 1) := by decide +kernel
theorem dX6_why_59 : decode cX6_why 59 = .ok (.iload_n 1, 1) := by decide +kernel
theorem dX6_why_60 : decode cX6_why 60 = .ok (.invokevirtual 126, 3) := by decide +kernel
theorem dX6_why_63 : decode cX6_why 63 = .ok (.ifCond .eq 7, 3) := by decide +kernel
theorem dX6_why_66 : decode cX6_why 66 = .ok (.iconst 2, 1) := by decide +kernel
theorem dX6_why_67 : decode cX6_why 67 = .ok (.goto 4, 3) := by decide +kernel
theorem dX6_why_70 : decode cX6_why 70 = .ok (.iconst 3, 1) := by decide +kernel
theorem dX6_why_71 : decode cX6_why 71 = .ok (.ireturn, 1) := by decide +kernel
theorem dX6_order_0 : decode cX6_order 0 = .ok (.aload_n 0, 1) := by decide +kernel
theorem dX6_order_1 : decode cX6_order 1 = .ok (.invokevirtual 152, 3) := by decide +kernel
theorem dX6_order_4 : decode cX6_order 4 = .ok (.iconst (-1), 1) := by decide +kernel
theorem dX6_order_5 : decode cX6_order 5 = .ok (.if_icmp .eq 24, 3) := by decide +kernel
theorem dX6_order_8 : decode cX6_order 8 = .ok (.iload_n 1, 1) := by decide +kernel
theorem dX6_order_9 : decode cX6_order 9 = .ok (.ifCond .lt 20, 3) := by decide +kernel
theorem dX6_order_12 : decode cX6_order 12 = .ok (.iload_n 1, 1) := by decide +kernel
theorem dX6_order_13 : decode cX6_order 13 = .ok (.aload_n 0, 1) := by decide +kernel
theorem dX6_order_14 : decode cX6_order 14 = .ok (.getfield 149, 3) := by decide +kernel
theorem dX6_order_17 : decode cX6_order 17 = .ok (.if_icmp .ge 12, 3) := by decide +kernel
theorem dX6_order_20 : decode cX6_order 20 = .ok (.iload_n 1, 1) := by decide +kernel
theorem dX6_order_21 : decode cX6_order 21 = .ok (.aload_n 0, 1) := by decide +kernel
theorem dX6_order_22 : decode cX6_order 22 = .ok (.getfield 20, 3) := by decide +kernel
theorem dX6_order_25 : decode cX6_order 25 = .ok (.arraylength, 1) := by decide +kernel
theorem dX6_order_26 : decode cX6_order 26 = .ok (.if_icmp .lt 5, 3) := by decide +kernel
theorem dX6_order_29 : decode cX6_order 29 = .ok (.iconst (-1), 1) := by decide +kernel
theorem dX6_order_30 : decode cX6_order 30 = .ok (.ireturn, 1) := by decide +kernel
theorem dX6_order_31 : decode cX6_order 31 = .ok (.aload_n 0, 1) := by decide +kernel
theorem dX6_order_32 : decode cX6_order 32 = .ok (.getfield 20, 3) := by decide +kernel
theorem dX6_order_35 : decode cX6_order 35 = .ok (.iload_n 1, 1) := by decide +kernel
theorem dX6_order_36 : decode cX6_order 36 = .ok (.iaload, 1) := by decide +kernel
theorem dX6_order_37 : decode cX6_order 37 = .ok (.ireturn, 1) := by decide +kernel
theorem dX6_rings_0 : decode cX6_rings 0 = .ok (.aload_n 0, 1) := by decide +kernel
theorem dX6_rings_1 : decode cX6_rings 1 = .ok (.invokevirtual 152, 3) := by decide +kernel
theorem dX6_rings_4 : decode cX6_rings 4 = .ok (.istore_n 1, 1) := by decide +kernel
theorem dX6_rings_5 : decode cX6_rings 5 = .ok (.iload_n 1, 1) := by decide +kernel
theorem dX6_rings_6 : decode cX6_rings 6 = .ok (.iconst (-1), 1) := by decide +kernel
theorem dX6_rings_7 : decode cX6_rings 7 = .ok (.if_icmp .ne 7, 3) := by decide +kernel
theorem dX6_rings_10 : decode cX6_rings 10 = .ok (.iconst (-1), 1) := by decide +kernel
theorem dX6_rings_11 : decode cX6_rings 11 = .ok (.goto 12, 3) := by decide +kernel
theorem dX6_rings_14 : decode cX6_rings 14 = .ok (.iload_n 1, 1) := by decide +kernel
theorem dX6_rings_15 : decode cX6_rings 15 = .ok (.invokestatic 170, 3) := by decide +kernel
theorem dX6_rings_18 : decode cX6_rings 18 = .ok (.aload_n 0, 1) := by decide +kernel
theorem dX6_rings_19 : decode cX6_rings 19 = .ok (.getfield 149, 3) := by decide +kernel
theorem dX6_rings_22 : decode cX6_rings 22 = .ok (.isub, 1) := by decide +kernel
theorem dX6_rings_23 : decode cX6_rings 23 = .ok (.ireturn, 1) := by decide +kernel
theorem dX6_hide_0 : decode cX6_hide 0 = .ok (.aload_n 0, 1) := by decide +kernel
theorem dX6_hide_1 : decode cX6_hide 1 = .ok (.getfield 26, 3) := by decide +kernel
theorem dX6_hide_4 : decode cX6_hide 4 = .ok (.iload_n 1, 1) := by decide +kernel
theorem dX6_hide_5 : decode cX6_hide 5 = .ok (.iload_n 2, 1) := by decide +kernel
theorem dX6_hide_6 : decode cX6_hide 6 = .ok (.invokevirtual 176, 3) := by decide +kernel
theorem dX6_hide_9 : decode cX6_hide 9 = .ok (.ifCond .eq 15, 3) := by decide +kernel
theorem dX6_hide_12 : decode cX6_hide 12 = .ok (.iload_n 3, 1) := by decide +kernel
theorem dX6_hide_13 : decode cX6_hide 13 = .ok (.iconst (-1), 1) := by decide +kernel
theorem dX6_hide_14 : decode cX6_hide 14 = .ok (.if_icmp .lt 10, 3) := by decide +kernel
theorem dX6_hide_17 : decode cX6_hide 17 = .ok (.iload_n 3, 1) := by decide +kernel
theorem dX6_hide_18 : decode cX6_hide 18 = .ok (.sipush 9999, 3) := by decide +kernel
theorem dX6_hide_21 : decode cX6_hide 21 = .ok (.if_icmp .le 5, 3) := by decide +kernel
theorem dX6_hide_24 : decode cX6_hide 24 = .ok (.iconst 0, 1) := by decide +kernel
theorem dX6_hide_25 : decode cX6_hide 25 = .ok (.ireturn, 1) := by decide +kernel
theorem dX6_hide_26 : decode cX6_hide 26 = .ok (.aload_n 0, 1) := by decide +kernel
theorem dX6_hide_27 : decode cX6_hide 27 = .ok (.getfield 16, 3) := by decide +kernel
theorem dX6_hide_30 : decode cX6_hide 30 = .ok (.iload_n 1, 1) := by decide +kernel
theorem dX6_hide_31 : decode cX6_hide 31 = .ok (.iload_n 2, 1) := by decide +kernel
theorem dX6_hide_32 : decode cX6_hide 32 = .ok (.invokestatic 179, 3) := by decide +kernel
theorem dX6_hide_35 : decode cX6_hide 35 = .ok (.iload_n 3, 1) := by decide +kernel
theorem dX6_hide_36 : decode cX6_hide 36 = .ok (.iastore, 1) := by decide +kernel
theorem dX6_hide_37 : decode cX6_hide 37 = .ok (.iconst 1, 1) := by decide +kernel
theorem dX6_hide_38 : decode cX6_hide 38 = .ok (.ireturn, 1) := by decide +kernel
theorem dX6_shown_0 : decode cX6_shown 0 = .ok (.aload_n 0, 1) := by decide +kernel
theorem dX6_shown_1 : decode cX6_shown 1 = .ok (.getfield 26, 3) := by decide +kernel
theorem dX6_shown_4 : decode cX6_shown 4 = .ok (.iload_n 1, 1) := by decide +kernel
theorem dX6_shown_5 : decode cX6_shown 5 = .ok (.iload_n 2, 1) := by decide +kernel
theorem dX6_shown_6 : decode cX6_shown 6 = .ok (.invokevirtual 113, 3) := by decide +kernel
theorem dX6_shown_9 : decode cX6_shown 9 = .ok (.istore_n 3, 1) := by decide +kernel
theorem dX6_shown_10 : decode cX6_shown 10 = .ok (.iload_n 3, 1) := by decide +kernel
theorem dX6_shown_11 : decode cX6_shown 11 = .ok (.iconst (-1), 1) := by decide +kernel
theorem dX6_shown_12 : decode cX6_shown 12 = .ok (.if_icmp .eq 14, 3) := by decide +kernel
theorem dX6_shown_15 : decode cX6_shown 15 = .ok (.aload_n 0, 1) := by decide +kernel
theorem dX6_shown_16 : decode cX6_shown 16 = .ok (.getfield 26, 3) := by decide +kernel
theorem dX6_shown_19 : decode cX6_shown 19 = .ok (.iload_n 1, 1) := by decide +kernel
theorem dX6_shown_20 : decode cX6_shown 20 = .ok (.invokevirtual 99, 3) := by decide +kernel
theorem dX6_shown_23 : decode cX6_shown 23 = .ok (.ifCond .ne 5, 3) := by decide +kernel
theorem dX6_shown_26 : decode cX6_shown 26 = .ok (.iconst (-1), 1) := by decide +kernel
theorem dX6_shown_27 : decode cX6_shown 27 = .ok (.ireturn, 1) := by decide +kernel
theorem dX6_shown_28 : decode cX6_shown 28 = .ok (.aload_n 0, 1) := by decide +kernel
theorem dX6_shown_29 : decode cX6_shown 29 = .ok (.getfield 16, 3) := by decide +kernel
theorem dX6_shown_32 : decode cX6_shown 32 = .ok (.aload_n 0, 1) := by decide +kernel
theorem dX6_shown_33 : decode cX6_shown 33 = .ok (.getfield 26, 3) := by decide +kernel
theorem dX6_shown_36 : decode cX6_shown 36 = .ok (.getfield 103, 3) := by decide +kernel
theorem dX6_shown_39 : decode cX6_shown 39 = .ok (.iload_n 1, 1) := by decide +kernel
theorem dX6_shown_40 : decode cX6_shown 40 = .ok (.iaload, 1) := by decide +kernel
theorem dX6_shown_41 : decode cX6_shown 41 = .ok (.iload_n 2, 1) := by decide +kernel
theorem dX6_shown_42 : decode cX6_shown 42 = .ok (.invokestatic 179, 3) := by decide +kernel
theorem dX6_shown_45 : decode cX6_shown 45 = .ok (.iaload, 1) := by decide +kernel
theorem dX6_shown_46 : decode cX6_shown 46 = .ok (.istore 4, 2) := by decide +kernel
theorem dX6_shown_48 : decode cX6_shown 48 = .ok (.iload 4, 2) := by decide +kernel
theorem dX6_shown_50 : decode cX6_shown 50 = .ok (.iconst (-1), 1) := by decide +kernel
theorem dX6_shown_51 : decode cX6_shown 51 = .ok (.if_icmp .ne 7, 3) := by decide +kernel
theorem dX6_shown_54 : decode cX6_shown 54 = .ok (.iload_n 3, 1) := by decide +kernel
theorem dX6_shown_55 : decode cX6_shown 55 = .ok (.goto 9, 3) := by decide +kernel
theorem dX6_shown_58 : decode cX6_shown 58 = .ok (.iload_n 3, 1) := by decide +kernel
theorem dX6_shown_59 : decode cX6_shown 59 = .ok (.iload 4, 2) := by decide +kernel
theorem dX6_shown_61 : decode cX6_shown 61 = .ok (.invokestatic 182, 3) := by decide +kernel
theorem dX6_shown_64 : decode cX6_shown 64 = .ok (.ireturn, 1) := by decide +kernel
theorem dX6_weight_0 : decode cX6_weight 0 = .ok (.aload_n 0, 1) := by decide +kernel
theorem dX6_weight_1 : decode cX6_weight 1 = .ok (.invokevirtual 152, 3) := by decide +kernel
theorem dX6_weight_4 : decode cX6_weight 4 = .ok (.istore 4, 2) := by decide +kernel
theorem dX6_weight_6 : decode cX6_weight 6 = .ok (.iload 4, 2) := by decide +kernel
theorem dX6_weight_8 : decode cX6_weight 8 = .ok (.iconst (-1), 1) := by decide +kernel
theorem dX6_weight_9 : decode cX6_weight 9 = .ok (.if_icmp .eq 15, 3) := by decide +kernel
theorem dX6_weight_12 : decode cX6_weight 12 = .ok (.aload_n 0, 1) := by decide +kernel
theorem dX6_weight_13 : decode cX6_weight 13 = .ok (.getfield 26, 3) := by decide +kernel
theorem dX6_weight_16 : decode cX6_weight 16 = .ok (.iload_n 1, 1) := by decide +kernel
theorem dX6_weight_17 : decode cX6_weight 17 = .ok (.iload_n 2, 1) := by decide +kernel
theorem dX6_weight_18 : decode cX6_weight 18 = .ok (.invokevirtual 176, 3) := by decide +kernel
theorem dX6_weight_21 : decode cX6_weight 21 = .ok (.ifCond .ne 5, 3) := by decide +kernel
theorem dX6_weight_24 : decode cX6_weight 24 = .ok (.iconst (-1), 1) := by decide +kernel
theorem dX6_weight_25 : decode cX6_weight 25 = .ok (.ireturn, 1) := by decide +kernel
theorem dX6_weight_26 : decode cX6_weight 26 = .ok (.aload_n 0, 1) := by decide +kernel
theorem dX6_weight_27 : decode cX6_weight 27 = .ok (.getfield 26, 3) := by decide +kernel
theorem dX6_weight_30 : decode cX6_weight 30 = .ok (.iload_n 1, 1) := by decide +kernel
theorem dX6_weight_31 : decode cX6_weight 31 = .ok (.iload_n 2, 1) := by decide +kernel
theorem dX6_weight_32 : decode cX6_weight 32 = .ok (.aload_n 0, 1) := by decide +kernel
theorem dX6_weight_33 : decode cX6_weight 33 = .ok (.getfield 69, 3) := by decide +kernel
theorem dX6_weight_36 : decode cX6_weight 36 = .ok (.iconst (-1), 1) := by decide +kernel
theorem dX6_weight_37 : decode cX6_weight 37 = .ok (.ixor, 1) := by decide +kernel
theorem dX6_weight_38 : decode cX6_weight 38 = .ok (.invokevirtual 185, 3) := by decide +kernel
theorem dX6_weight_41 : decode cX6_weight 41 = .ok (.istore 5, 2) := by decide +kernel
theorem dX6_weight_43 : decode cX6_weight 43 = .ok (.aload_n 0, 1) := by decide +kernel
theorem dX6_weight_44 : decode cX6_weight 44 = .ok (.getfield 26, 3) := by decide +kernel
theorem dX6_weight_47 : decode cX6_weight 47 = .ok (.iload_n 1, 1) := by decide +kernel
theorem dX6_weight_48 : decode cX6_weight 48 = .ok (.iload_n 2, 1) := by decide +kernel
theorem dX6_weight_49 : decode cX6_weight 49 = .ok (.iload 4, 2) := by decide +kernel
theorem dX6_weight_51 : decode cX6_weight 51 = .ok (.invokevirtual 185, 3) := by decide +kernel
theorem dX6_weight_54 : decode cX6_weight 54 = .ok (.istore 6, 2) := by decide +kernel
theorem dX6_weight_56 : decode cX6_weight 56 = .ok (.iload 5, 2) := by decide +kernel
theorem dX6_weight_58 : decode cX6_weight 58 = .ok (.iload 6, 2) := by decide +kernel
theorem dX6_weight_60 : decode cX6_weight 60 = .ok (.invokestatic 189, 3) := by decide +kernel
theorem dX6_weight_63 : decode cX6_weight 63 = .ok (.istore 7, 2) := by decide +kernel
theorem dX6_weight_65 : decode cX6_weight 65 = .ok (.iload 6, 2) := by decide +kernel
theorem dX6_weight_67 : decode cX6_weight 67 = .ok (.ifCond .eq 8, 3) := by decide +kernel
theorem dX6_weight_70 : decode cX6_weight 70 = .ok (.iload 7, 2) := by decide +kernel
theorem dX6_weight_72 : decode cX6_weight 72 = .ok (.ifCond .ne 5, 3) := by decide +kernel
theorem dX6_weight_75 : decode cX6_weight 75 = .ok (.iconst (-1), 1) := by decide +kernel
theorem dX6_weight_76 : decode cX6_weight 76 = .ok (.ireturn, 1) := by decide +kernel
theorem dX6_weight_77 : decode cX6_weight 77 = .ok (.iload_n 3, 1) := by decide +kernel
theorem dX6_weight_78 : decode cX6_weight 78 = .ok (.ifCond .eq 11, 3) := by decide +kernel
theorem dX6_weight_81 : decode cX6_weight 81 = .ok (.iload 6, 2) := by decide +kernel
theorem dX6_weight_83 : decode cX6_weight 83 = .ok (.iload 7, 2) := by decide +kernel
theorem dX6_weight_85 : decode cX6_weight 85 = .ok (.idiv, 1) := by decide +kernel
theorem dX6_weight_86 : decode cX6_weight 86 = .ok (.goto 8, 3) := by decide +kernel
theorem dX6_weight_89 : decode cX6_weight 89 = .ok (.iload 5, 2) := by decide +kernel
theorem dX6_weight_91 : decode cX6_weight 91 = .ok (.iload 7, 2) := by decide +kernel
theorem dX6_weight_93 : decode cX6_weight 93 = .ok (.idiv, 1) := by decide +kernel
theorem dX6_weight_94 : decode cX6_weight 94 = .ok (.ireturn, 1) := by decide +kernel
theorem dX6_about_0 : decode cX6_about 0 = .ok (.iload_n 1, 1) := by decide +kernel
theorem dX6_about_1 : decode cX6_about 1 = .ok (.tableswitch 84 0 5 #[39, 47, 55, 63, 71, 76], 39) := by decide +kernel
theorem dX6_about_40 : decode cX6_about 40 = .ok (.aload_n 0, 1) := by decide +kernel
theorem dX6_about_41 : decode cX6_about 41 = .ok (.getfield 26, 3) := by decide +kernel
theorem dX6_about_44 : decode cX6_about 44 = .ok (.getfield 192, 3) := by decide +kernel
theorem dX6_about_47 : decode cX6_about 47 = .ok (.ireturn, 1) := by decide +kernel
theorem dX6_about_48 : decode cX6_about 48 = .ok (.aload_n 0, 1) := by decide +kernel
theorem dX6_about_49 : decode cX6_about 49 = .ok (.getfield 26, 3) := by decide +kernel
theorem dX6_about_52 : decode cX6_about 52 = .ok (.getfield 78, 3) := by decide +kernel
theorem dX6_about_55 : decode cX6_about 55 = .ok (.ireturn, 1) := by decide +kernel
theorem dX6_about_56 : decode cX6_about 56 = .ok (.aload_n 0, 1) := by decide +kernel
theorem dX6_about_57 : decode cX6_about 57 = .ok (.getfield 36, 3) := by decide +kernel
theorem dX6_about_60 : decode cX6_about 60 = .ok (.getfield 90, 3) := by decide +kernel
theorem dX6_about_63 : decode cX6_about 63 = .ok (.ireturn, 1) := by decide +kernel
theorem dX6_about_64 : decode cX6_about 64 = .ok (.aload_n 0, 1) := by decide +kernel
theorem dX6_about_65 : decode cX6_about 65 = .ok (.getfield 69, 3) := by decide +kernel
theorem dX6_about_68 : decode cX6_about 68 = .ok (.invokestatic 170, 3) := by decide +kernel
theorem dX6_about_71 : decode cX6_about 71 = .ok (.ireturn, 1) := by decide +kernel
theorem dX6_about_72 : decode cX6_about 72 = .ok (.aload_n 0, 1) := by decide +kernel
theorem dX6_about_73 : decode cX6_about 73 = .ok (.getfield 72, 3) := by decide +kernel
theorem dX6_about_76 : decode cX6_about 76 = .ok (.ireturn, 1) := by decide +kernel
theorem dX6_about_77 : decode cX6_about 77 = .ok (.aload_n 0, 1) := by decide +kernel
theorem dX6_about_78 : decode cX6_about 78 = .ok (.getfield 10, 3) := by decide +kernel
theorem dX6_about_81 : decode cX6_about 81 = .ok (.getfield 49, 3) := by decide +kernel
theorem dX6_about_84 : decode cX6_about 84 = .ok (.ireturn, 1) := by decide +kernel
theorem dX6_about_85 : decode cX6_about 85 = .ok (.aload_n 0, 1) := by decide +kernel
theorem dX6_about_86 : decode cX6_about 86 = .ok (.iload_n 1, 1) := by decide +kernel
theorem dX6_about_87 : decode cX6_about 87 = .ok (.invokevirtual 194, 3) := by decide +kernel
theorem dX6_about_90 : decode cX6_about 90 = .ok (.ireturn, 1) := by decide +kernel
theorem dX6_aboutTable_0 : decode cX6_aboutTable 0 = .ok (.iload_n 1, 1) := by decide +kernel
theorem dX6_aboutTable_1 : decode cX6_aboutTable 1 = .ok (.bipush 10, 2) := by decide +kernel
theorem dX6_aboutTable_3 : decode cX6_aboutTable 3 = .ok (.if_icmp .lt 30, 3) := by decide +kernel
theorem dX6_aboutTable_6 : decode cX6_aboutTable 6 = .ok (.aload_n 0, 1) := by decide +kernel
theorem dX6_aboutTable_7 : decode cX6_aboutTable 7 = .ok (.getfield 26, 3) := by decide +kernel
theorem dX6_aboutTable_10 : decode cX6_aboutTable 10 = .ok (.iload_n 1, 1) := by decide +kernel
theorem dX6_aboutTable_11 : decode cX6_aboutTable 11 = .ok (.bipush 10, 2) := by decide +kernel
theorem dX6_aboutTable_13 : decode cX6_aboutTable 13 = .ok (.isub, 1) := by decide +kernel
theorem dX6_aboutTable_14 : decode cX6_aboutTable 14 = .ok (.invokevirtual 197, 3) := by decide +kernel
theorem dX6_aboutTable_17 : decode cX6_aboutTable 17 = .ok (.ifCond .eq 16, 3) := by decide +kernel
theorem dX6_aboutTable_20 : decode cX6_aboutTable 20 = .ok (.aload_n 0, 1) := by decide +kernel
theorem dX6_aboutTable_21 : decode cX6_aboutTable 21 = .ok (.getfield 26, 3) := by decide +kernel
theorem dX6_aboutTable_24 : decode cX6_aboutTable 24 = .ok (.getfield 200, 3) := by decide +kernel
theorem dX6_aboutTable_27 : decode cX6_aboutTable 27 = .ok (.iload_n 1, 1) := by decide +kernel
theorem dX6_aboutTable_28 : decode cX6_aboutTable 28 = .ok (.bipush 10, 2) := by decide +kernel
theorem dX6_aboutTable_30 : decode cX6_aboutTable 30 = .ok (.isub, 1) := by decide +kernel
theorem dX6_aboutTable_31 : decode cX6_aboutTable 31 = .ok (.iaload, 1) := by decide +kernel
theorem dX6_aboutTable_32 : decode cX6_aboutTable 32 = .ok (.ireturn, 1) := by decide +kernel
theorem dX6_aboutTable_33 : decode cX6_aboutTable 33 = .ok (.iload_n 1, 1) := by decide +kernel
theorem dX6_aboutTable_34 : decode cX6_aboutTable 34 = .ok (.bipush 20, 2) := by decide +kernel
theorem dX6_aboutTable_36 : decode cX6_aboutTable 36 = .ok (.if_icmp .lt 30, 3) := by decide +kernel
theorem dX6_aboutTable_39 : decode cX6_aboutTable 39 = .ok (.aload_n 0, 1) := by decide +kernel
theorem dX6_aboutTable_40 : decode cX6_aboutTable 40 = .ok (.getfield 26, 3) := by decide +kernel
theorem dX6_aboutTable_43 : decode cX6_aboutTable 43 = .ok (.iload_n 1, 1) := by decide +kernel
theorem dX6_aboutTable_44 : decode cX6_aboutTable 44 = .ok (.bipush 20, 2) := by decide +kernel
theorem dX6_aboutTable_46 : decode cX6_aboutTable 46 = .ok (.isub, 1) := by decide +kernel
theorem dX6_aboutTable_47 : decode cX6_aboutTable 47 = .ok (.invokevirtual 197, 3) := by decide +kernel
theorem dX6_aboutTable_50 : decode cX6_aboutTable 50 = .ok (.ifCond .eq 16, 3) := by decide +kernel
theorem dX6_aboutTable_53 : decode cX6_aboutTable 53 = .ok (.aload_n 0, 1) := by decide +kernel
theorem dX6_aboutTable_54 : decode cX6_aboutTable 54 = .ok (.getfield 26, 3) := by decide +kernel
theorem dX6_aboutTable_57 : decode cX6_aboutTable 57 = .ok (.getfield 203, 3) := by decide +kernel
theorem dX6_aboutTable_60 : decode cX6_aboutTable 60 = .ok (.iload_n 1, 1) := by decide +kernel
theorem dX6_aboutTable_61 : decode cX6_aboutTable 61 = .ok (.bipush 20, 2) := by decide +kernel
theorem dX6_aboutTable_63 : decode cX6_aboutTable 63 = .ok (.isub, 1) := by decide +kernel
theorem dX6_aboutTable_64 : decode cX6_aboutTable 64 = .ok (.iaload, 1) := by decide +kernel
theorem dX6_aboutTable_65 : decode cX6_aboutTable 65 = .ok (.ireturn, 1) := by decide +kernel
theorem dX6_aboutTable_66 : decode cX6_aboutTable 66 = .ok (.iconst (-1), 1) := by decide +kernel
theorem dX6_aboutTable_67 : decode cX6_aboutTable 67 = .ok (.ireturn, 1) := by decide +kernel
theorem dX6_forgetPieces_0 : decode cX6_forgetPieces 0 = .ok (.aload_n 0, 1) := by decide +kernel
theorem dX6_forgetPieces_1 : decode cX6_forgetPieces 1 = .ok (.iconst 0, 1) := by decide +kernel
theorem dX6_forgetPieces_2 : decode cX6_forgetPieces 2 = .ok (.putfield 129, 3) := by decide +kernel
theorem dX6_forgetPieces_5 : decode cX6_forgetPieces 5 = .ok (.aload_n 0, 1) := by decide +kernel
theorem dX6_forgetPieces_6 : decode cX6_forgetPieces 6 = .ok (.iconst 0, 1) := by decide +kernel
theorem dX6_forgetPieces_7 : decode cX6_forgetPieces 7 = .ok (.putfield 155, 3) := by decide +kernel
theorem dX6_forgetPieces_10 : decode cX6_forgetPieces 10 = .ok (.return_, 1) := by decide +kernel
theorem dX6_has_0 : decode cX6_has 0 = .ok (.iload_n 0, 1) := by decide +kernel
theorem dX6_has_1 : decode cX6_has 1 = .ok (.iload_n 1, 1) := by decide +kernel
theorem dX6_has_2 : decode cX6_has 2 = .ok (.ishr, 1) := by decide +kernel
theorem dX6_has_3 : decode cX6_has 3 = .ok (.iconst 1, 1) := by decide +kernel
theorem dX6_has_4 : decode cX6_has 4 = .ok (.iand, 1) := by decide +kernel
theorem dX6_has_5 : decode cX6_has 5 = .ok (.ifCond .eq 7, 3) := by decide +kernel
theorem dX6_has_8 : decode cX6_has 8 = .ok (.iconst 1, 1) := by decide +kernel
theorem dX6_has_9 : decode cX6_has 9 = .ok (.goto 4, 3) := by decide +kernel
theorem dX6_has_12 : decode cX6_has 12 = .ok (.iconst 0, 1) := by decide +kernel
theorem dX6_has_13 : decode cX6_has 13 = .ok (.ireturn, 1) := by decide +kernel
theorem dX6_slot_0 : decode cX6_slot 0 = .ok (.iload_n 0, 1) := by decide +kernel
theorem dX6_slot_1 : decode cX6_slot 1 = .ok (.iconst 5, 1) := by decide +kernel
theorem dX6_slot_2 : decode cX6_slot 2 = .ok (.imul, 1) := by decide +kernel
theorem dX6_slot_3 : decode cX6_slot 3 = .ok (.iload_n 1, 1) := by decide +kernel
theorem dX6_slot_4 : decode cX6_slot 4 = .ok (.iadd, 1) := by decide +kernel
theorem dX6_slot_5 : decode cX6_slot 5 = .ok (.ireturn, 1) := by decide +kernel
theorem dX6_turned_0 : decode cX6_turned 0 = .ok (.iload_n 0, 1) := by decide +kernel
theorem dX6_turned_1 : decode cX6_turned 1 = .ok (.i2l, 1) := by decide +kernel
theorem dX6_turned_2 : decode cX6_turned 2 = .ok (.iconst 2, 1) := by decide +kernel
theorem dX6_turned_3 : decode cX6_turned 3 = .ok (.iload_n 1, 1) := by decide +kernel
theorem dX6_turned_4 : decode cX6_turned 4 = .ok (.imul, 1) := by decide +kernel
theorem dX6_turned_5 : decode cX6_turned 5 = .ok (.iconst 1, 1) := by decide +kernel
theorem dX6_turned_6 : decode cX6_turned 6 = .ok (.iadd, 1) := by decide +kernel
theorem dX6_turned_7 : decode cX6_turned 7 = .ok (.i2l, 1) := by decide +kernel
theorem dX6_turned_8 : decode cX6_turned 8 = .ok (.lmul, 1) := by decide +kernel
theorem dX6_turned_9 : decode cX6_turned 9 = .ok (.iload_n 1, 1) := by decide +kernel
theorem dX6_turned_10 : decode cX6_turned 10 = .ok (.i2l, 1) := by decide +kernel
theorem dX6_turned_11 : decode cX6_turned 11 = .ok (.ladd, 1) := by decide +kernel
theorem dX6_turned_12 : decode cX6_turned 12 = .ok (.ldc2_w 206, 3) := by decide +kernel
theorem dX6_turned_15 : decode cX6_turned 15 = .ok (.lrem, 1) := by decide +kernel
theorem dX6_turned_16 : decode cX6_turned 16 = .ok (.l2i, 1) := by decide +kernel
theorem dX6_turned_17 : decode cX6_turned 17 = .ok (.ireturn, 1) := by decide +kernel
theorem dX6_commonDivisor_0 : decode cX6_commonDivisor 0 = .ok (.iload_n 0, 1) := by decide +kernel
theorem dX6_commonDivisor_1 : decode cX6_commonDivisor 1 = .ok (.istore_n 2, 1) := by decide +kernel
theorem dX6_commonDivisor_2 : decode cX6_commonDivisor 2 = .ok (.iload_n 1, 1) := by decide +kernel
theorem dX6_commonDivisor_3 : decode cX6_commonDivisor 3 = .ok (.istore_n 3, 1) := by decide +kernel
theorem dX6_commonDivisor_4 : decode cX6_commonDivisor 4 = .ok (.iconst 0, 1) := by decide +kernel
theorem dX6_commonDivisor_5 : decode cX6_commonDivisor 5 = .ok (.istore 4, 2) := by decide +kernel
theorem dX6_commonDivisor_7 : decode cX6_commonDivisor 7 = .ok (.iload 4, 2) := by decide +kernel
theorem dX6_commonDivisor_9 : decode cX6_commonDivisor 9 = .ok (.bipush 64, 2) := by decide +kernel
theorem dX6_commonDivisor_11 : decode cX6_commonDivisor 11 = .ok (.if_icmp .ge 23, 3) := by decide +kernel
theorem dX6_commonDivisor_14 : decode cX6_commonDivisor 14 = .ok (.iload_n 3, 1) := by decide +kernel
theorem dX6_commonDivisor_15 : decode cX6_commonDivisor 15 = .ok (.ifCond .eq 19, 3) := by decide +kernel
theorem dX6_commonDivisor_18 : decode cX6_commonDivisor 18 = .ok (.iload_n 2, 1) := by decide +kernel
theorem dX6_commonDivisor_19 : decode cX6_commonDivisor 19 = .ok (.iload_n 3, 1) := by decide +kernel
theorem dX6_commonDivisor_20 : decode cX6_commonDivisor 20 = .ok (.irem, 1) := by decide +kernel
theorem dX6_commonDivisor_21 : decode cX6_commonDivisor 21 = .ok (.istore 5, 2) := by decide +kernel
theorem dX6_commonDivisor_23 : decode cX6_commonDivisor 23 = .ok (.iload_n 3, 1) := by decide +kernel
theorem dX6_commonDivisor_24 : decode cX6_commonDivisor 24 = .ok (.istore_n 2, 1) := by decide +kernel
theorem dX6_commonDivisor_25 : decode cX6_commonDivisor 25 = .ok (.iload 5, 2) := by decide +kernel
theorem dX6_commonDivisor_27 : decode cX6_commonDivisor 27 = .ok (.istore_n 3, 1) := by decide +kernel
theorem dX6_commonDivisor_28 : decode cX6_commonDivisor 28 = .ok (.iinc 4 1, 3) := by decide +kernel
theorem dX6_commonDivisor_31 : decode cX6_commonDivisor 31 = .ok (.goto (-24), 3) := by decide +kernel
theorem dX6_commonDivisor_34 : decode cX6_commonDivisor 34 = .ok (.iload_n 2, 1) := by decide +kernel
theorem dX6_commonDivisor_35 : decode cX6_commonDivisor 35 = .ok (.ireturn, 1) := by decide +kernel
theorem dL_law_0 : decode cL_law 0 = .ok (.new 7, 3) := by decide +kernel
theorem dL_law_3 : decode cL_law 3 = .ok (.dup, 1) := by decide +kernel
theorem dL_law_4 : decode cL_law 4 = .ok (.invokespecial 9, 3) := by decide +kernel
theorem dL_law_7 : decode cL_law 7 = .ok (.astore_n 1, 1) := by decide +kernel
theorem dL_law_8 : decode cL_law 8 = .ok (.new 10, 3) := by decide +kernel
theorem dL_law_11 : decode cL_law 11 = .ok (.dup, 1) := by decide +kernel
theorem dL_law_12 : decode cL_law 12 = .ok (.invokespecial 12, 3) := by decide +kernel
theorem dL_law_15 : decode cL_law 15 = .ok (.astore_n 2, 1) := by decide +kernel
theorem dL_law_16 : decode cL_law 16 = .ok (.iconst 0, 1) := by decide +kernel
theorem dL_law_17 : decode cL_law 17 = .ok (.istore_n 3, 1) := by decide +kernel
theorem dL_law_18 : decode cL_law 18 = .ok (.iload_n 3, 1) := by decide +kernel
theorem dL_law_19 : decode cL_law 19 = .ok (.aload_n 0, 1) := by decide +kernel
theorem dL_law_20 : decode cL_law 20 = .ok (.arraylength, 1) := by decide +kernel
theorem dL_law_21 : decode cL_law 21 = .ok (.bipush 6, 2) := by decide +kernel
theorem dL_law_23 : decode cL_law 23 = .ok (.isub, 1) := by decide +kernel
theorem dL_law_24 : decode cL_law 24 = .ok (.if_icmp .gt 646, 3) := by decide +kernel
theorem dL_law_27 : decode cL_law 27 = .ok (.aload_n 0, 1) := by decide +kernel
theorem dL_law_28 : decode cL_law 28 = .ok (.iload_n 3, 1) := by decide +kernel
theorem dL_law_29 : decode cL_law 29 = .ok (.iaload, 1) := by decide +kernel
theorem dL_law_30 : decode cL_law 30 = .ok (.bipush 31, 2) := by decide +kernel
theorem dL_law_32 : decode cL_law 32 = .ok (.iand, 1) := by decide +kernel
theorem dL_law_33 : decode cL_law 33 = .ok (.tableswitch 631 0 19 #[95, 158, 181, 194, 207, 230, 263, 296, 329, 352, 365, 378, 391, 414, 437, 460, 473, 516, 549, 608], 95) := by decide +kernel
theorem dL_law_128 : decode cL_law 128 = .ok (.aload_n 1, 1) := by decide +kernel
theorem dL_law_129 : decode cL_law 129 = .ok (.aload_n 0, 1) := by decide +kernel
theorem dL_law_130 : decode cL_law 130 = .ok (.iload_n 3, 1) := by decide +kernel
theorem dL_law_131 : decode cL_law 131 = .ok (.iconst 1, 1) := by decide +kernel
theorem dL_law_132 : decode cL_law 132 = .ok (.iadd, 1) := by decide +kernel
theorem dL_law_133 : decode cL_law 133 = .ok (.iaload, 1) := by decide +kernel
theorem dL_law_134 : decode cL_law 134 = .ok (.aload_n 0, 1) := by decide +kernel
theorem dL_law_135 : decode cL_law 135 = .ok (.iload_n 3, 1) := by decide +kernel
theorem dL_law_136 : decode cL_law 136 = .ok (.iconst 2, 1) := by decide +kernel
theorem dL_law_137 : decode cL_law 137 = .ok (.iadd, 1) := by decide +kernel
theorem dL_law_138 : decode cL_law 138 = .ok (.iaload, 1) := by decide +kernel
theorem dL_law_139 : decode cL_law 139 = .ok (.aload_n 0, 1) := by decide +kernel
theorem dL_law_140 : decode cL_law 140 = .ok (.iload_n 3, 1) := by decide +kernel
theorem dL_law_141 : decode cL_law 141 = .ok (.iconst 3, 1) := by decide +kernel
theorem dL_law_142 : decode cL_law 142 = .ok (.iadd, 1) := by decide +kernel
theorem dL_law_143 : decode cL_law 143 = .ok (.iaload, 1) := by decide +kernel
theorem dL_law_144 : decode cL_law 144 = .ok (.aload_n 0, 1) := by decide +kernel
theorem dL_law_145 : decode cL_law 145 = .ok (.iload_n 3, 1) := by decide +kernel
theorem dL_law_146 : decode cL_law 146 = .ok (.iconst 4, 1) := by decide +kernel
theorem dL_law_147 : decode cL_law 147 = .ok (.iadd, 1) := by decide +kernel
theorem dL_law_148 : decode cL_law 148 = .ok (.iaload, 1) := by decide +kernel
theorem dL_law_149 : decode cL_law 149 = .ok (.aload_n 0, 1) := by decide +kernel
theorem dL_law_150 : decode cL_law 150 = .ok (.iload_n 3, 1) := by decide +kernel
theorem dL_law_151 : decode cL_law 151 = .ok (.iconst 5, 1) := by decide +kernel
theorem dL_law_152 : decode cL_law 152 = .ok (.iadd, 1) := by decide +kernel
theorem dL_law_153 : decode cL_law 153 = .ok (.iaload, 1) := by decide +kernel
theorem dL_law_154 : decode cL_law 154 = .ok (.invokevirtual 13, 3) := by decide +kernel
theorem dL_law_157 : decode cL_law 157 = .ok (.aload_n 2, 1) := by decide +kernel
theorem dL_law_158 : decode cL_law 158 = .ok (.aload_n 0, 1) := by decide +kernel
theorem dL_law_159 : decode cL_law 159 = .ok (.iload_n 3, 1) := by decide +kernel
theorem dL_law_160 : decode cL_law 160 = .ok (.iconst 1, 1) := by decide +kernel
theorem dL_law_161 : decode cL_law 161 = .ok (.iadd, 1) := by decide +kernel
theorem dL_law_162 : decode cL_law 162 = .ok (.iaload, 1) := by decide +kernel
theorem dL_law_163 : decode cL_law 163 = .ok (.aload_n 0, 1) := by decide +kernel
theorem dL_law_164 : decode cL_law 164 = .ok (.iload_n 3, 1) := by decide +kernel
theorem dL_law_165 : decode cL_law 165 = .ok (.iconst 2, 1) := by decide +kernel
theorem dL_law_166 : decode cL_law 166 = .ok (.iadd, 1) := by decide +kernel
theorem dL_law_167 : decode cL_law 167 = .ok (.iaload, 1) := by decide +kernel
theorem dL_law_168 : decode cL_law 168 = .ok (.aload_n 0, 1) := by decide +kernel
theorem dL_law_169 : decode cL_law 169 = .ok (.iload_n 3, 1) := by decide +kernel
theorem dL_law_170 : decode cL_law 170 = .ok (.iconst 3, 1) := by decide +kernel
theorem dL_law_171 : decode cL_law 171 = .ok (.iadd, 1) := by decide +kernel
theorem dL_law_172 : decode cL_law 172 = .ok (.iaload, 1) := by decide +kernel
theorem dL_law_173 : decode cL_law 173 = .ok (.aload_n 0, 1) := by decide +kernel
theorem dL_law_174 : decode cL_law 174 = .ok (.iload_n 3, 1) := by decide +kernel
theorem dL_law_175 : decode cL_law 175 = .ok (.iconst 4, 1) := by decide +kernel
theorem dL_law_176 : decode cL_law 176 = .ok (.iadd, 1) := by decide +kernel
theorem dL_law_177 : decode cL_law 177 = .ok (.iaload, 1) := by decide +kernel
theorem dL_law_178 : decode cL_law 178 = .ok (.aload_n 0, 1) := by decide +kernel
theorem dL_law_179 : decode cL_law 179 = .ok (.iload_n 3, 1) := by decide +kernel
theorem dL_law_180 : decode cL_law 180 = .ok (.iconst 5, 1) := by decide +kernel
theorem dL_law_181 : decode cL_law 181 = .ok (.iadd, 1) := by decide +kernel
theorem dL_law_182 : decode cL_law 182 = .ok (.iaload, 1) := by decide +kernel
theorem dL_law_183 : decode cL_law 183 = .ok (.invokevirtual 17, 3) := by decide +kernel
theorem dL_law_186 : decode cL_law 186 = .ok (.if_icmp .eq 478, 3) := by decide +kernel
theorem dL_law_189 : decode cL_law 189 = .ok (.iconst 0, 1) := by decide +kernel
theorem dL_law_190 : decode cL_law 190 = .ok (.ireturn, 1) := by decide +kernel
theorem dL_law_191 : decode cL_law 191 = .ok (.aload_n 1, 1) := by decide +kernel
theorem dL_law_192 : decode cL_law 192 = .ok (.aload_n 0, 1) := by decide +kernel
theorem dL_law_193 : decode cL_law 193 = .ok (.iload_n 3, 1) := by decide +kernel
theorem dL_law_194 : decode cL_law 194 = .ok (.iconst 1, 1) := by decide +kernel
theorem dL_law_195 : decode cL_law 195 = .ok (.iadd, 1) := by decide +kernel
theorem dL_law_196 : decode cL_law 196 = .ok (.iaload, 1) := by decide +kernel
theorem dL_law_197 : decode cL_law 197 = .ok (.invokevirtual 18, 3) := by decide +kernel
theorem dL_law_200 : decode cL_law 200 = .ok (.aload_n 2, 1) := by decide +kernel
theorem dL_law_201 : decode cL_law 201 = .ok (.aload_n 0, 1) := by decide +kernel
theorem dL_law_202 : decode cL_law 202 = .ok (.iload_n 3, 1) := by decide +kernel
theorem dL_law_203 : decode cL_law 203 = .ok (.iconst 1, 1) := by decide +kernel
theorem dL_law_204 : decode cL_law 204 = .ok (.iadd, 1) := by decide +kernel
theorem dL_law_205 : decode cL_law 205 = .ok (.iaload, 1) := by decide +kernel
theorem dL_law_206 : decode cL_law 206 = .ok (.invokevirtual 22, 3) := by decide +kernel
theorem dL_law_209 : decode cL_law 209 = .ok (.if_icmp .eq 455, 3) := by decide +kernel
theorem dL_law_212 : decode cL_law 212 = .ok (.iconst 0, 1) := by decide +kernel
theorem dL_law_213 : decode cL_law 213 = .ok (.ireturn, 1) := by decide +kernel
theorem dL_law_214 : decode cL_law 214 = .ok (.aload_n 1, 1) := by decide +kernel
theorem dL_law_215 : decode cL_law 215 = .ok (.invokevirtual 23, 3) := by decide +kernel
theorem dL_law_218 : decode cL_law 218 = .ok (.aload_n 2, 1) := by decide +kernel
theorem dL_law_219 : decode cL_law 219 = .ok (.invokevirtual 27, 3) := by decide +kernel
theorem dL_law_222 : decode cL_law 222 = .ok (.if_icmp .eq 442, 3) := by decide +kernel
theorem dL_law_225 : decode cL_law 225 = .ok (.iconst 0, 1) := by decide +kernel
theorem dL_law_226 : decode cL_law 226 = .ok (.ireturn, 1) := by decide +kernel
theorem dL_law_227 : decode cL_law 227 = .ok (.aload_n 1, 1) := by decide +kernel
theorem dL_law_228 : decode cL_law 228 = .ok (.invokevirtual 28, 3) := by decide +kernel
theorem dL_law_231 : decode cL_law 231 = .ok (.aload_n 2, 1) := by decide +kernel
theorem dL_law_232 : decode cL_law 232 = .ok (.invokevirtual 31, 3) := by decide +kernel
theorem dL_law_235 : decode cL_law 235 = .ok (.if_icmp .eq 429, 3) := by decide +kernel
theorem dL_law_238 : decode cL_law 238 = .ok (.iconst 0, 1) := by decide +kernel
theorem dL_law_239 : decode cL_law 239 = .ok (.ireturn, 1) := by decide +kernel
theorem dL_law_240 : decode cL_law 240 = .ok (.aload_n 1, 1) := by decide +kernel
theorem dL_law_241 : decode cL_law 241 = .ok (.aload_n 0, 1) := by decide +kernel
theorem dL_law_242 : decode cL_law 242 = .ok (.iload_n 3, 1) := by decide +kernel
theorem dL_law_243 : decode cL_law 243 = .ok (.iconst 1, 1) := by decide +kernel
theorem dL_law_244 : decode cL_law 244 = .ok (.iadd, 1) := by decide +kernel
theorem dL_law_245 : decode cL_law 245 = .ok (.iaload, 1) := by decide +kernel
theorem dL_law_246 : decode cL_law 246 = .ok (.invokevirtual 32, 3) := by decide +kernel
theorem dL_law_249 : decode cL_law 249 = .ok (.aload_n 2, 1) := by decide +kernel
theorem dL_law_250 : decode cL_law 250 = .ok (.aload_n 0, 1) := by decide +kernel
theorem dL_law_251 : decode cL_law 251 = .ok (.iload_n 3, 1) := by decide +kernel
theorem dL_law_252 : decode cL_law 252 = .ok (.iconst 1, 1) := by decide +kernel
theorem dL_law_253 : decode cL_law 253 = .ok (.iadd, 1) := by decide +kernel
theorem dL_law_254 : decode cL_law 254 = .ok (.iaload, 1) := by decide +kernel
theorem dL_law_255 : decode cL_law 255 = .ok (.invokevirtual 35, 3) := by decide +kernel
theorem dL_law_258 : decode cL_law 258 = .ok (.if_icmp .eq 406, 3) := by decide +kernel
theorem dL_law_261 : decode cL_law 261 = .ok (.iconst 0, 1) := by decide +kernel
theorem dL_law_262 : decode cL_law 262 = .ok (.ireturn, 1) := by decide +kernel
theorem dL_law_263 : decode cL_law 263 = .ok (.aload_n 1, 1) := by decide +kernel
theorem dL_law_264 : decode cL_law 264 = .ok (.aload_n 0, 1) := by decide +kernel
theorem dL_law_265 : decode cL_law 265 = .ok (.iload_n 3, 1) := by decide +kernel
theorem dL_law_266 : decode cL_law 266 = .ok (.iconst 1, 1) := by decide +kernel
theorem dL_law_267 : decode cL_law 267 = .ok (.iadd, 1) := by decide +kernel
theorem dL_law_268 : decode cL_law 268 = .ok (.iaload, 1) := by decide +kernel
theorem dL_law_269 : decode cL_law 269 = .ok (.aload_n 0, 1) := by decide +kernel
theorem dL_law_270 : decode cL_law 270 = .ok (.iload_n 3, 1) := by decide +kernel
theorem dL_law_271 : decode cL_law 271 = .ok (.iconst 2, 1) := by decide +kernel
theorem dL_law_272 : decode cL_law 272 = .ok (.iadd, 1) := by decide +kernel
theorem dL_law_273 : decode cL_law 273 = .ok (.iaload, 1) := by decide +kernel
theorem dL_law_274 : decode cL_law 274 = .ok (.invokevirtual 36, 3) := by decide +kernel
theorem dL_law_277 : decode cL_law 277 = .ok (.aload_n 2, 1) := by decide +kernel
theorem dL_law_278 : decode cL_law 278 = .ok (.aload_n 0, 1) := by decide +kernel
theorem dL_law_279 : decode cL_law 279 = .ok (.iload_n 3, 1) := by decide +kernel
theorem dL_law_280 : decode cL_law 280 = .ok (.iconst 1, 1) := by decide +kernel
theorem dL_law_281 : decode cL_law 281 = .ok (.iadd, 1) := by decide +kernel
theorem dL_law_282 : decode cL_law 282 = .ok (.iaload, 1) := by decide +kernel
theorem dL_law_283 : decode cL_law 283 = .ok (.aload_n 0, 1) := by decide +kernel
theorem dL_law_284 : decode cL_law 284 = .ok (.iload_n 3, 1) := by decide +kernel
theorem dL_law_285 : decode cL_law 285 = .ok (.iconst 2, 1) := by decide +kernel
theorem dL_law_286 : decode cL_law 286 = .ok (.iadd, 1) := by decide +kernel
theorem dL_law_287 : decode cL_law 287 = .ok (.iaload, 1) := by decide +kernel
theorem dL_law_288 : decode cL_law 288 = .ok (.invokevirtual 40, 3) := by decide +kernel
theorem dL_law_291 : decode cL_law 291 = .ok (.if_icmp .eq 373, 3) := by decide +kernel
theorem dL_law_294 : decode cL_law 294 = .ok (.iconst 0, 1) := by decide +kernel
theorem dL_law_295 : decode cL_law 295 = .ok (.ireturn, 1) := by decide +kernel
theorem dL_law_296 : decode cL_law 296 = .ok (.aload_n 1, 1) := by decide +kernel
theorem dL_law_297 : decode cL_law 297 = .ok (.aload_n 0, 1) := by decide +kernel
theorem dL_law_298 : decode cL_law 298 = .ok (.iload_n 3, 1) := by decide +kernel
theorem dL_law_299 : decode cL_law 299 = .ok (.iconst 1, 1) := by decide +kernel
theorem dL_law_300 : decode cL_law 300 = .ok (.iadd, 1) := by decide +kernel
theorem dL_law_301 : decode cL_law 301 = .ok (.iaload, 1) := by decide +kernel
theorem dL_law_302 : decode cL_law 302 = .ok (.aload_n 0, 1) := by decide +kernel
theorem dL_law_303 : decode cL_law 303 = .ok (.iload_n 3, 1) := by decide +kernel
theorem dL_law_304 : decode cL_law 304 = .ok (.iconst 2, 1) := by decide +kernel
theorem dL_law_305 : decode cL_law 305 = .ok (.iadd, 1) := by decide +kernel
theorem dL_law_306 : decode cL_law 306 = .ok (.iaload, 1) := by decide +kernel
theorem dL_law_307 : decode cL_law 307 = .ok (.invokevirtual 41, 3) := by decide +kernel
theorem dL_law_310 : decode cL_law 310 = .ok (.aload_n 2, 1) := by decide +kernel
theorem dL_law_311 : decode cL_law 311 = .ok (.aload_n 0, 1) := by decide +kernel
theorem dL_law_312 : decode cL_law 312 = .ok (.iload_n 3, 1) := by decide +kernel
theorem dL_law_313 : decode cL_law 313 = .ok (.iconst 1, 1) := by decide +kernel
theorem dL_law_314 : decode cL_law 314 = .ok (.iadd, 1) := by decide +kernel
theorem dL_law_315 : decode cL_law 315 = .ok (.iaload, 1) := by decide +kernel
theorem dL_law_316 : decode cL_law 316 = .ok (.aload_n 0, 1) := by decide +kernel
theorem dL_law_317 : decode cL_law 317 = .ok (.iload_n 3, 1) := by decide +kernel
theorem dL_law_318 : decode cL_law 318 = .ok (.iconst 2, 1) := by decide +kernel
theorem dL_law_319 : decode cL_law 319 = .ok (.iadd, 1) := by decide +kernel
theorem dL_law_320 : decode cL_law 320 = .ok (.iaload, 1) := by decide +kernel
theorem dL_law_321 : decode cL_law 321 = .ok (.invokevirtual 44, 3) := by decide +kernel
theorem dL_law_324 : decode cL_law 324 = .ok (.if_icmp .eq 340, 3) := by decide +kernel
theorem dL_law_327 : decode cL_law 327 = .ok (.iconst 0, 1) := by decide +kernel
theorem dL_law_328 : decode cL_law 328 = .ok (.ireturn, 1) := by decide +kernel
theorem dL_law_329 : decode cL_law 329 = .ok (.aload_n 1, 1) := by decide +kernel
theorem dL_law_330 : decode cL_law 330 = .ok (.aload_n 0, 1) := by decide +kernel
theorem dL_law_331 : decode cL_law 331 = .ok (.iload_n 3, 1) := by decide +kernel
theorem dL_law_332 : decode cL_law 332 = .ok (.iconst 1, 1) := by decide +kernel
theorem dL_law_333 : decode cL_law 333 = .ok (.iadd, 1) := by decide +kernel
theorem dL_law_334 : decode cL_law 334 = .ok (.iaload, 1) := by decide +kernel
theorem dL_law_335 : decode cL_law 335 = .ok (.aload_n 0, 1) := by decide +kernel
theorem dL_law_336 : decode cL_law 336 = .ok (.iload_n 3, 1) := by decide +kernel
theorem dL_law_337 : decode cL_law 337 = .ok (.iconst 2, 1) := by decide +kernel
theorem dL_law_338 : decode cL_law 338 = .ok (.iadd, 1) := by decide +kernel
theorem dL_law_339 : decode cL_law 339 = .ok (.iaload, 1) := by decide +kernel
theorem dL_law_340 : decode cL_law 340 = .ok (.invokevirtual 45, 3) := by decide +kernel
theorem dL_law_343 : decode cL_law 343 = .ok (.aload_n 2, 1) := by decide +kernel
theorem dL_law_344 : decode cL_law 344 = .ok (.aload_n 0, 1) := by decide +kernel
theorem dL_law_345 : decode cL_law 345 = .ok (.iload_n 3, 1) := by decide +kernel
theorem dL_law_346 : decode cL_law 346 = .ok (.iconst 1, 1) := by decide +kernel
theorem dL_law_347 : decode cL_law 347 = .ok (.iadd, 1) := by decide +kernel
theorem dL_law_348 : decode cL_law 348 = .ok (.iaload, 1) := by decide +kernel
theorem dL_law_349 : decode cL_law 349 = .ok (.aload_n 0, 1) := by decide +kernel
theorem dL_law_350 : decode cL_law 350 = .ok (.iload_n 3, 1) := by decide +kernel
theorem dL_law_351 : decode cL_law 351 = .ok (.iconst 2, 1) := by decide +kernel
theorem dL_law_352 : decode cL_law 352 = .ok (.iadd, 1) := by decide +kernel
theorem dL_law_353 : decode cL_law 353 = .ok (.iaload, 1) := by decide +kernel
theorem dL_law_354 : decode cL_law 354 = .ok (.invokevirtual 48, 3) := by decide +kernel
theorem dL_law_357 : decode cL_law 357 = .ok (.if_icmp .eq 307, 3) := by decide +kernel
theorem dL_law_360 : decode cL_law 360 = .ok (.iconst 0, 1) := by decide +kernel
theorem dL_law_361 : decode cL_law 361 = .ok (.ireturn, 1) := by decide +kernel
theorem dL_law_362 : decode cL_law 362 = .ok (.aload_n 1, 1) := by decide +kernel
theorem dL_law_363 : decode cL_law 363 = .ok (.aload_n 0, 1) := by decide +kernel
theorem dL_law_364 : decode cL_law 364 = .ok (.iload_n 3, 1) := by decide +kernel
theorem dL_law_365 : decode cL_law 365 = .ok (.iconst 1, 1) := by decide +kernel
theorem dL_law_366 : decode cL_law 366 = .ok (.iadd, 1) := by decide +kernel
theorem dL_law_367 : decode cL_law 367 = .ok (.iaload, 1) := by decide +kernel
theorem dL_law_368 : decode cL_law 368 = .ok (.invokevirtual 49, 3) := by decide +kernel
theorem dL_law_371 : decode cL_law 371 = .ok (.aload_n 2, 1) := by decide +kernel
theorem dL_law_372 : decode cL_law 372 = .ok (.aload_n 0, 1) := by decide +kernel
theorem dL_law_373 : decode cL_law 373 = .ok (.iload_n 3, 1) := by decide +kernel
theorem dL_law_374 : decode cL_law 374 = .ok (.iconst 1, 1) := by decide +kernel
theorem dL_law_375 : decode cL_law 375 = .ok (.iadd, 1) := by decide +kernel
theorem dL_law_376 : decode cL_law 376 = .ok (.iaload, 1) := by decide +kernel
theorem dL_law_377 : decode cL_law 377 = .ok (.invokevirtual 53, 3) := by decide +kernel
theorem dL_law_380 : decode cL_law 380 = .ok (.if_icmp .eq 284, 3) := by decide +kernel
theorem dL_law_383 : decode cL_law 383 = .ok (.iconst 0, 1) := by decide +kernel
theorem dL_law_384 : decode cL_law 384 = .ok (.ireturn, 1) := by decide +kernel
theorem dL_law_385 : decode cL_law 385 = .ok (.aload_n 1, 1) := by decide +kernel
theorem dL_law_386 : decode cL_law 386 = .ok (.invokevirtual 54, 3) := by decide +kernel
theorem dL_law_389 : decode cL_law 389 = .ok (.aload_n 2, 1) := by decide +kernel
theorem dL_law_390 : decode cL_law 390 = .ok (.invokevirtual 57, 3) := by decide +kernel
theorem dL_law_393 : decode cL_law 393 = .ok (.if_icmp .eq 271, 3) := by decide +kernel
theorem dL_law_396 : decode cL_law 396 = .ok (.iconst 0, 1) := by decide +kernel
theorem dL_law_397 : decode cL_law 397 = .ok (.ireturn, 1) := by decide +kernel
theorem dL_law_398 : decode cL_law 398 = .ok (.aload_n 1, 1) := by decide +kernel
theorem dL_law_399 : decode cL_law 399 = .ok (.invokevirtual 58, 3) := by decide +kernel
theorem dL_law_402 : decode cL_law 402 = .ok (.aload_n 2, 1) := by decide +kernel
theorem dL_law_403 : decode cL_law 403 = .ok (.invokevirtual 62, 3) := by decide +kernel
theorem dL_law_406 : decode cL_law 406 = .ok (.if_icmp .eq 258, 3) := by decide +kernel
theorem dL_law_409 : decode cL_law 409 = .ok (.iconst 0, 1) := by decide +kernel
theorem dL_law_410 : decode cL_law 410 = .ok (.ireturn, 1) := by decide +kernel
theorem dL_law_411 : decode cL_law 411 = .ok (.aload_n 1, 1) := by decide +kernel
theorem dL_law_412 : decode cL_law 412 = .ok (.invokevirtual 63, 3) := by decide +kernel
theorem dL_law_415 : decode cL_law 415 = .ok (.aload_n 2, 1) := by decide +kernel
theorem dL_law_416 : decode cL_law 416 = .ok (.invokevirtual 66, 3) := by decide +kernel
theorem dL_law_419 : decode cL_law 419 = .ok (.if_icmp .eq 245, 3) := by decide +kernel
theorem dL_law_422 : decode cL_law 422 = .ok (.iconst 0, 1) := by decide +kernel
theorem dL_law_423 : decode cL_law 423 = .ok (.ireturn, 1) := by decide +kernel
theorem dL_law_424 : decode cL_law 424 = .ok (.aload_n 1, 1) := by decide +kernel
theorem dL_law_425 : decode cL_law 425 = .ok (.aload_n 0, 1) := by decide +kernel
theorem dL_law_426 : decode cL_law 426 = .ok (.iload_n 3, 1) := by decide +kernel
theorem dL_law_427 : decode cL_law 427 = .ok (.iconst 1, 1) := by decide +kernel
theorem dL_law_428 : decode cL_law 428 = .ok (.iadd, 1) := by decide +kernel
theorem dL_law_429 : decode cL_law 429 = .ok (.iaload, 1) := by decide +kernel
theorem dL_law_430 : decode cL_law 430 = .ok (.invokevirtual 67, 3) := by decide +kernel
theorem dL_law_433 : decode cL_law 433 = .ok (.aload_n 2, 1) := by decide +kernel
theorem dL_law_434 : decode cL_law 434 = .ok (.aload_n 0, 1) := by decide +kernel
theorem dL_law_435 : decode cL_law 435 = .ok (.iload_n 3, 1) := by decide +kernel
theorem dL_law_436 : decode cL_law 436 = .ok (.iconst 1, 1) := by decide +kernel
theorem dL_law_437 : decode cL_law 437 = .ok (.iadd, 1) := by decide +kernel
theorem dL_law_438 : decode cL_law 438 = .ok (.iaload, 1) := by decide +kernel
theorem dL_law_439 : decode cL_law 439 = .ok (.invokevirtual 70, 3) := by decide +kernel
theorem dL_law_442 : decode cL_law 442 = .ok (.if_icmp .eq 222, 3) := by decide +kernel
theorem dL_law_445 : decode cL_law 445 = .ok (.iconst 0, 1) := by decide +kernel
theorem dL_law_446 : decode cL_law 446 = .ok (.ireturn, 1) := by decide +kernel
theorem dL_law_447 : decode cL_law 447 = .ok (.aload_n 1, 1) := by decide +kernel
theorem dL_law_448 : decode cL_law 448 = .ok (.aload_n 0, 1) := by decide +kernel
theorem dL_law_449 : decode cL_law 449 = .ok (.iload_n 3, 1) := by decide +kernel
theorem dL_law_450 : decode cL_law 450 = .ok (.iconst 1, 1) := by decide +kernel
theorem dL_law_451 : decode cL_law 451 = .ok (.iadd, 1) := by decide +kernel
theorem dL_law_452 : decode cL_law 452 = .ok (.iaload, 1) := by decide +kernel
theorem dL_law_453 : decode cL_law 453 = .ok (.invokevirtual 71, 3) := by decide +kernel
theorem dL_law_456 : decode cL_law 456 = .ok (.aload_n 2, 1) := by decide +kernel
theorem dL_law_457 : decode cL_law 457 = .ok (.aload_n 0, 1) := by decide +kernel
theorem dL_law_458 : decode cL_law 458 = .ok (.iload_n 3, 1) := by decide +kernel
theorem dL_law_459 : decode cL_law 459 = .ok (.iconst 1, 1) := by decide +kernel
theorem dL_law_460 : decode cL_law 460 = .ok (.iadd, 1) := by decide +kernel
theorem dL_law_461 : decode cL_law 461 = .ok (.iaload, 1) := by decide +kernel
theorem dL_law_462 : decode cL_law 462 = .ok (.invokevirtual 74, 3) := by decide +kernel
theorem dL_law_465 : decode cL_law 465 = .ok (.if_icmp .eq 199, 3) := by decide +kernel
theorem dL_law_468 : decode cL_law 468 = .ok (.iconst 0, 1) := by decide +kernel
theorem dL_law_469 : decode cL_law 469 = .ok (.ireturn, 1) := by decide +kernel
theorem dL_law_470 : decode cL_law 470 = .ok (.aload_n 1, 1) := by decide +kernel
theorem dL_law_471 : decode cL_law 471 = .ok (.aload_n 0, 1) := by decide +kernel
theorem dL_law_472 : decode cL_law 472 = .ok (.iload_n 3, 1) := by decide +kernel
theorem dL_law_473 : decode cL_law 473 = .ok (.iconst 1, 1) := by decide +kernel
theorem dL_law_474 : decode cL_law 474 = .ok (.iadd, 1) := by decide +kernel
theorem dL_law_475 : decode cL_law 475 = .ok (.iaload, 1) := by decide +kernel
theorem dL_law_476 : decode cL_law 476 = .ok (.invokevirtual 75, 3) := by decide +kernel
theorem dL_law_479 : decode cL_law 479 = .ok (.aload_n 2, 1) := by decide +kernel
theorem dL_law_480 : decode cL_law 480 = .ok (.aload_n 0, 1) := by decide +kernel
theorem dL_law_481 : decode cL_law 481 = .ok (.iload_n 3, 1) := by decide +kernel
theorem dL_law_482 : decode cL_law 482 = .ok (.iconst 1, 1) := by decide +kernel
theorem dL_law_483 : decode cL_law 483 = .ok (.iadd, 1) := by decide +kernel
theorem dL_law_484 : decode cL_law 484 = .ok (.iaload, 1) := by decide +kernel
theorem dL_law_485 : decode cL_law 485 = .ok (.invokevirtual 78, 3) := by decide +kernel
theorem dL_law_488 : decode cL_law 488 = .ok (.if_icmp .eq 176, 3) := by decide +kernel
theorem dL_law_491 : decode cL_law 491 = .ok (.iconst 0, 1) := by decide +kernel
theorem dL_law_492 : decode cL_law 492 = .ok (.ireturn, 1) := by decide +kernel
theorem dL_law_493 : decode cL_law 493 = .ok (.aload_n 1, 1) := by decide +kernel
theorem dL_law_494 : decode cL_law 494 = .ok (.invokevirtual 79, 3) := by decide +kernel
theorem dL_law_497 : decode cL_law 497 = .ok (.aload_n 2, 1) := by decide +kernel
theorem dL_law_498 : decode cL_law 498 = .ok (.invokevirtual 82, 3) := by decide +kernel
theorem dL_law_501 : decode cL_law 501 = .ok (.if_icmp .eq 163, 3) := by decide +kernel
theorem dL_law_504 : decode cL_law 504 = .ok (.iconst 0, 1) := by decide +kernel
theorem dL_law_505 : decode cL_law 505 = .ok (.ireturn, 1) := by decide +kernel
theorem dL_law_506 : decode cL_law 506 = .ok (.aload_n 1, 1) := by decide +kernel
theorem dL_law_507 : decode cL_law 507 = .ok (.aload_n 0, 1) := by decide +kernel
theorem dL_law_508 : decode cL_law 508 = .ok (.iload_n 3, 1) := by decide +kernel
theorem dL_law_509 : decode cL_law 509 = .ok (.iconst 1, 1) := by decide +kernel
theorem dL_law_510 : decode cL_law 510 = .ok (.iadd, 1) := by decide +kernel
theorem dL_law_511 : decode cL_law 511 = .ok (.iaload, 1) := by decide +kernel
theorem dL_law_512 : decode cL_law 512 = .ok (.aload_n 0, 1) := by decide +kernel
theorem dL_law_513 : decode cL_law 513 = .ok (.iload_n 3, 1) := by decide +kernel
theorem dL_law_514 : decode cL_law 514 = .ok (.iconst 2, 1) := by decide +kernel
theorem dL_law_515 : decode cL_law 515 = .ok (.iadd, 1) := by decide +kernel
theorem dL_law_516 : decode cL_law 516 = .ok (.iaload, 1) := by decide +kernel
theorem dL_law_517 : decode cL_law 517 = .ok (.aload_n 0, 1) := by decide +kernel
theorem dL_law_518 : decode cL_law 518 = .ok (.iload_n 3, 1) := by decide +kernel
theorem dL_law_519 : decode cL_law 519 = .ok (.iconst 3, 1) := by decide +kernel
theorem dL_law_520 : decode cL_law 520 = .ok (.iadd, 1) := by decide +kernel
theorem dL_law_521 : decode cL_law 521 = .ok (.iaload, 1) := by decide +kernel
theorem dL_law_522 : decode cL_law 522 = .ok (.invokevirtual 83, 3) := by decide +kernel
theorem dL_law_525 : decode cL_law 525 = .ok (.aload_n 2, 1) := by decide +kernel
theorem dL_law_526 : decode cL_law 526 = .ok (.aload_n 0, 1) := by decide +kernel
theorem dL_law_527 : decode cL_law 527 = .ok (.iload_n 3, 1) := by decide +kernel
theorem dL_law_528 : decode cL_law 528 = .ok (.iconst 1, 1) := by decide +kernel
theorem dL_law_529 : decode cL_law 529 = .ok (.iadd, 1) := by decide +kernel
theorem dL_law_530 : decode cL_law 530 = .ok (.iaload, 1) := by decide +kernel
theorem dL_law_531 : decode cL_law 531 = .ok (.aload_n 0, 1) := by decide +kernel
theorem dL_law_532 : decode cL_law 532 = .ok (.iload_n 3, 1) := by decide +kernel
theorem dL_law_533 : decode cL_law 533 = .ok (.iconst 2, 1) := by decide +kernel
theorem dL_law_534 : decode cL_law 534 = .ok (.iadd, 1) := by decide +kernel
theorem dL_law_535 : decode cL_law 535 = .ok (.iaload, 1) := by decide +kernel
theorem dL_law_536 : decode cL_law 536 = .ok (.aload_n 0, 1) := by decide +kernel
theorem dL_law_537 : decode cL_law 537 = .ok (.iload_n 3, 1) := by decide +kernel
theorem dL_law_538 : decode cL_law 538 = .ok (.iconst 3, 1) := by decide +kernel
theorem dL_law_539 : decode cL_law 539 = .ok (.iadd, 1) := by decide +kernel
theorem dL_law_540 : decode cL_law 540 = .ok (.iaload, 1) := by decide +kernel
theorem dL_law_541 : decode cL_law 541 = .ok (.invokevirtual 87, 3) := by decide +kernel
theorem dL_law_544 : decode cL_law 544 = .ok (.if_icmp .eq 120, 3) := by decide +kernel
theorem dL_law_547 : decode cL_law 547 = .ok (.iconst 0, 1) := by decide +kernel
theorem dL_law_548 : decode cL_law 548 = .ok (.ireturn, 1) := by decide +kernel
theorem dL_law_549 : decode cL_law 549 = .ok (.aload_n 1, 1) := by decide +kernel
theorem dL_law_550 : decode cL_law 550 = .ok (.aload_n 0, 1) := by decide +kernel
theorem dL_law_551 : decode cL_law 551 = .ok (.iload_n 3, 1) := by decide +kernel
theorem dL_law_552 : decode cL_law 552 = .ok (.iconst 1, 1) := by decide +kernel
theorem dL_law_553 : decode cL_law 553 = .ok (.iadd, 1) := by decide +kernel
theorem dL_law_554 : decode cL_law 554 = .ok (.iaload, 1) := by decide +kernel
theorem dL_law_555 : decode cL_law 555 = .ok (.aload_n 0, 1) := by decide +kernel
theorem dL_law_556 : decode cL_law 556 = .ok (.iload_n 3, 1) := by decide +kernel
theorem dL_law_557 : decode cL_law 557 = .ok (.iconst 2, 1) := by decide +kernel
theorem dL_law_558 : decode cL_law 558 = .ok (.iadd, 1) := by decide +kernel
theorem dL_law_559 : decode cL_law 559 = .ok (.iaload, 1) := by decide +kernel
theorem dL_law_560 : decode cL_law 560 = .ok (.invokevirtual 88, 3) := by decide +kernel
theorem dL_law_563 : decode cL_law 563 = .ok (.aload_n 2, 1) := by decide +kernel
theorem dL_law_564 : decode cL_law 564 = .ok (.aload_n 0, 1) := by decide +kernel
theorem dL_law_565 : decode cL_law 565 = .ok (.iload_n 3, 1) := by decide +kernel
theorem dL_law_566 : decode cL_law 566 = .ok (.iconst 1, 1) := by decide +kernel
theorem dL_law_567 : decode cL_law 567 = .ok (.iadd, 1) := by decide +kernel
theorem dL_law_568 : decode cL_law 568 = .ok (.iaload, 1) := by decide +kernel
theorem dL_law_569 : decode cL_law 569 = .ok (.aload_n 0, 1) := by decide +kernel
theorem dL_law_570 : decode cL_law 570 = .ok (.iload_n 3, 1) := by decide +kernel
theorem dL_law_571 : decode cL_law 571 = .ok (.iconst 2, 1) := by decide +kernel
theorem dL_law_572 : decode cL_law 572 = .ok (.iadd, 1) := by decide +kernel
theorem dL_law_573 : decode cL_law 573 = .ok (.iaload, 1) := by decide +kernel
theorem dL_law_574 : decode cL_law 574 = .ok (.invokevirtual 91, 3) := by decide +kernel
theorem dL_law_577 : decode cL_law 577 = .ok (.if_icmp .eq 87, 3) := by decide +kernel
theorem dL_law_580 : decode cL_law 580 = .ok (.iconst 0, 1) := by decide +kernel
theorem dL_law_581 : decode cL_law 581 = .ok (.ireturn, 1) := by decide +kernel
theorem dL_law_582 : decode cL_law 582 = .ok (.aload_n 1, 1) := by decide +kernel
theorem dL_law_583 : decode cL_law 583 = .ok (.aload_n 0, 1) := by decide +kernel
theorem dL_law_584 : decode cL_law 584 = .ok (.iload_n 3, 1) := by decide +kernel
theorem dL_law_585 : decode cL_law 585 = .ok (.iconst 1, 1) := by decide +kernel
theorem dL_law_586 : decode cL_law 586 = .ok (.iadd, 1) := by decide +kernel
theorem dL_law_587 : decode cL_law 587 = .ok (.iaload, 1) := by decide +kernel
theorem dL_law_588 : decode cL_law 588 = .ok (.aload_n 0, 1) := by decide +kernel
theorem dL_law_589 : decode cL_law 589 = .ok (.iload_n 3, 1) := by decide +kernel
theorem dL_law_590 : decode cL_law 590 = .ok (.iconst 2, 1) := by decide +kernel
theorem dL_law_591 : decode cL_law 591 = .ok (.iadd, 1) := by decide +kernel
theorem dL_law_592 : decode cL_law 592 = .ok (.iaload, 1) := by decide +kernel
theorem dL_law_593 : decode cL_law 593 = .ok (.aload_n 0, 1) := by decide +kernel
theorem dL_law_594 : decode cL_law 594 = .ok (.iload_n 3, 1) := by decide +kernel
theorem dL_law_595 : decode cL_law 595 = .ok (.iconst 3, 1) := by decide +kernel
theorem dL_law_596 : decode cL_law 596 = .ok (.iadd, 1) := by decide +kernel
theorem dL_law_597 : decode cL_law 597 = .ok (.iaload, 1) := by decide +kernel
theorem dL_law_598 : decode cL_law 598 = .ok (.ifCond .eq 7, 3) := by decide +kernel
theorem dL_law_601 : decode cL_law 601 = .ok (.iconst 1, 1) := by decide +kernel
theorem dL_law_602 : decode cL_law 602 = .ok (.goto 4, 3) := by decide +kernel
theorem dL_law_605 : decode cL_law 605 = .ok (.iconst 0, 1) := by decide +kernel
theorem dL_law_606 : decode cL_law 606 = .ok (.invokevirtual 92, 3) := by decide +kernel
theorem dL_law_609 : decode cL_law 609 = .ok (.aload_n 2, 1) := by decide +kernel
theorem dL_law_610 : decode cL_law 610 = .ok (.aload_n 0, 1) := by decide +kernel
theorem dL_law_611 : decode cL_law 611 = .ok (.iload_n 3, 1) := by decide +kernel
theorem dL_law_612 : decode cL_law 612 = .ok (.iconst 1, 1) := by decide +kernel
theorem dL_law_613 : decode cL_law 613 = .ok (.iadd, 1) := by decide +kernel
theorem dL_law_614 : decode cL_law 614 = .ok (.iaload, 1) := by decide +kernel
theorem dL_law_615 : decode cL_law 615 = .ok (.aload_n 0, 1) := by decide +kernel
theorem dL_law_616 : decode cL_law 616 = .ok (.iload_n 3, 1) := by decide +kernel
theorem dL_law_617 : decode cL_law 617 = .ok (.iconst 2, 1) := by decide +kernel
theorem dL_law_618 : decode cL_law 618 = .ok (.iadd, 1) := by decide +kernel
theorem dL_law_619 : decode cL_law 619 = .ok (.iaload, 1) := by decide +kernel
theorem dL_law_620 : decode cL_law 620 = .ok (.aload_n 0, 1) := by decide +kernel
theorem dL_law_621 : decode cL_law 621 = .ok (.iload_n 3, 1) := by decide +kernel
theorem dL_law_622 : decode cL_law 622 = .ok (.iconst 3, 1) := by decide +kernel
theorem dL_law_623 : decode cL_law 623 = .ok (.iadd, 1) := by decide +kernel
theorem dL_law_624 : decode cL_law 624 = .ok (.iaload, 1) := by decide +kernel
theorem dL_law_625 : decode cL_law 625 = .ok (.ifCond .eq 7, 3) := by decide +kernel
theorem dL_law_628 : decode cL_law 628 = .ok (.iconst 1, 1) := by decide +kernel
theorem dL_law_629 : decode cL_law 629 = .ok (.goto 4, 3) := by decide +kernel
theorem dL_law_632 : decode cL_law 632 = .ok (.iconst 0, 1) := by decide +kernel
theorem dL_law_633 : decode cL_law 633 = .ok (.invokevirtual 96, 3) := by decide +kernel
theorem dL_law_636 : decode cL_law 636 = .ok (.if_icmp .eq 28, 3) := by decide +kernel
theorem dL_law_639 : decode cL_law 639 = .ok (.iconst 0, 1) := by decide +kernel
theorem dL_law_640 : decode cL_law 640 = .ok (.ireturn, 1) := by decide +kernel
theorem dL_law_641 : decode cL_law 641 = .ok (.aload_n 1, 1) := by decide +kernel
theorem dL_law_642 : decode cL_law 642 = .ok (.aload_n 0, 1) := by decide +kernel
theorem dL_law_643 : decode cL_law 643 = .ok (.iload_n 3, 1) := by decide +kernel
theorem dL_law_644 : decode cL_law 644 = .ok (.iconst 1, 1) := by decide +kernel
theorem dL_law_645 : decode cL_law 645 = .ok (.iadd, 1) := by decide +kernel
theorem dL_law_646 : decode cL_law 646 = .ok (.iaload, 1) := by decide +kernel
theorem dL_law_647 : decode cL_law 647 = .ok (.invokevirtual 97, 3) := by decide +kernel
theorem dL_law_650 : decode cL_law 650 = .ok (.aload_n 2, 1) := by decide +kernel
theorem dL_law_651 : decode cL_law 651 = .ok (.aload_n 0, 1) := by decide +kernel
theorem dL_law_652 : decode cL_law 652 = .ok (.iload_n 3, 1) := by decide +kernel
theorem dL_law_653 : decode cL_law 653 = .ok (.iconst 1, 1) := by decide +kernel
theorem dL_law_654 : decode cL_law 654 = .ok (.iadd, 1) := by decide +kernel
theorem dL_law_655 : decode cL_law 655 = .ok (.iaload, 1) := by decide +kernel
theorem dL_law_656 : decode cL_law 656 = .ok (.invokevirtual 100, 3) := by decide +kernel
theorem dL_law_659 : decode cL_law 659 = .ok (.if_icmp .eq 5, 3) := by decide +kernel
theorem dL_law_662 : decode cL_law 662 = .ok (.iconst 0, 1) := by decide +kernel
theorem dL_law_663 : decode cL_law 663 = .ok (.ireturn, 1) := by decide +kernel
theorem dL_law_664 : decode cL_law 664 = .ok (.iinc 3 6, 3) := by decide +kernel
theorem dL_law_667 : decode cL_law 667 = .ok (.goto (-649), 3) := by decide +kernel
theorem dL_law_670 : decode cL_law 670 = .ok (.iconst 1, 1) := by decide +kernel
theorem dL_law_671 : decode cL_law 671 = .ok (.ireturn, 1) := by decide +kernel
