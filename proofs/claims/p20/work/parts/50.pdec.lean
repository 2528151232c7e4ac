theorem dX3_read_0 : decode cX3_read 0 = .ok (.aload_n 0, 1) := by decide +kernel
theorem dX3_read_1 : decode cX3_read 1 = .ok (.aload_n 1, 1) := by decide +kernel
theorem dX3_read_2 : decode cX3_read 2 = .ok (.putfield 15, 3) := by decide +kernel
theorem dX3_read_5 : decode cX3_read 5 = .ok (.aload_n 0, 1) := by decide +kernel
theorem dX3_read_6 : decode cX3_read 6 = .ok (.getfield 15, 3) := by decide +kernel
theorem dX3_read_9 : decode cX3_read 9 = .ok (.invokevirtual 19, 3) := by decide +kernel
theorem dX3_read_12 : decode cX3_read 12 = .ok (.aload_n 0, 1) := by decide +kernel
theorem dX3_read_13 : decode cX3_read 13 = .ok (.getfield 9, 3) := by decide +kernel
theorem dX3_read_16 : decode cX3_read 16 = .ok (.invokevirtual 24, 3) := by decide +kernel
theorem dX3_read_19 : decode cX3_read 19 = .ok (.aload_n 0, 1) := by decide +kernel
theorem dX3_read_20 : decode cX3_read 20 = .ok (.invokevirtual 29, 3) := by decide +kernel
theorem dX3_read_23 : decode cX3_read 23 = .ok (.istore_n 2, 1) := by decide +kernel
theorem dX3_read_24 : decode cX3_read 24 = .ok (.iconst 0, 1) := by decide +kernel
theorem dX3_read_25 : decode cX3_read 25 = .ok (.istore_n 3, 1) := by decide +kernel
theorem dX3_read_26 : decode cX3_read 26 = .ok (.iload_n 3, 1) := by decide +kernel
theorem dX3_read_27 : decode cX3_read 27 = .ok (.sipush 500, 3) := by decide +kernel
theorem dX3_read_30 : decode cX3_read 30 = .ok (.if_icmp .ge 28, 3) := by decide +kernel
theorem dX3_read_33 : decode cX3_read 33 = .ok (.iload_n 2, 1) := by decide +kernel
theorem dX3_read_34 : decode cX3_read 34 = .ok (.ifCond .eq 24, 3) := by decide +kernel
theorem dX3_read_37 : decode cX3_read 37 = .ok (.aload_n 0, 1) := by decide +kernel
theorem dX3_read_38 : decode cX3_read 38 = .ok (.getfield 9, 3) := by decide +kernel
theorem dX3_read_41 : decode cX3_read 41 = .ok (.getfield 33, 3) := by decide +kernel
theorem dX3_read_44 : decode cX3_read 44 = .ok (.ifCond .eq 14, 3) := by decide +kernel
theorem dX3_read_47 : decode cX3_read 47 = .ok (.aload_n 0, 1) := by decide +kernel
theorem dX3_read_48 : decode cX3_read 48 = .ok (.invokevirtual 29, 3) := by decide +kernel
theorem dX3_read_51 : decode cX3_read 51 = .ok (.istore_n 2, 1) := by decide +kernel
theorem dX3_read_52 : decode cX3_read 52 = .ok (.iinc 3 1, 3) := by decide +kernel
theorem dX3_read_55 : decode cX3_read 55 = .ok (.goto (-29), 3) := by decide +kernel
theorem dX3_read_58 : decode cX3_read 58 = .ok (.iload_n 2, 1) := by decide +kernel
theorem dX3_read_59 : decode cX3_read 59 = .ok (.ifCond .eq 7, 3) := by decide +kernel
theorem dX3_read_62 : decode cX3_read 62 = .ok (.iconst (-1), 1) := by decide +kernel
theorem dX3_read_63 : decode cX3_read 63 = .ok (.goto 10, 3) := by decide +kernel
theorem dX3_read_66 : decode cX3_read 66 = .ok (.aload_n 0, 1) := by decide +kernel
theorem dX3_read_67 : decode cX3_read 67 = .ok (.getfield 9, 3) := by decide +kernel
theorem dX3_read_70 : decode cX3_read 70 = .ok (.getfield 37, 3) := by decide +kernel
theorem dX3_read_73 : decode cX3_read 73 = .ok (.ireturn, 1) := by decide +kernel
theorem dX3_readLine_0 : decode cX3_readLine 0 = .ok (.aload_n 0, 1) := by decide +kernel
theorem dX3_readLine_1 : decode cX3_readLine 1 = .ok (.invokevirtual 40, 3) := by decide +kernel
theorem dX3_readLine_4 : decode cX3_readLine 4 = .ok (.ifCond .ne 5, 3) := by decide +kernel
theorem dX3_readLine_7 : decode cX3_readLine 7 = .ok (.iconst 0, 1) := by decide +kernel
theorem dX3_readLine_8 : decode cX3_readLine 8 = .ok (.ireturn, 1) := by decide +kernel
theorem dX3_readLine_9 : decode cX3_readLine 9 = .ok (.iconst 1, 1) := by decide +kernel
theorem dX3_readLine_10 : decode cX3_readLine 10 = .ok (.istore_n 1, 1) := by decide +kernel
theorem dX3_readLine_11 : decode cX3_readLine 11 = .ok (.iconst 0, 1) := by decide +kernel
theorem dX3_readLine_12 : decode cX3_readLine 12 = .ok (.istore_n 2, 1) := by decide +kernel
theorem dX3_readLine_13 : decode cX3_readLine 13 = .ok (.iload_n 2, 1) := by decide +kernel
theorem dX3_readLine_14 : decode cX3_readLine 14 = .ok (.sipush 500, 3) := by decide +kernel
theorem dX3_readLine_17 : decode cX3_readLine 17 = .ok (.if_icmp .ge 86, 3) := by decide +kernel
theorem dX3_readLine_20 : decode cX3_readLine 20 = .ok (.iload_n 1, 1) := by decide +kernel
theorem dX3_readLine_21 : decode cX3_readLine 21 = .ok (.ifCond .eq 82, 3) := by decide +kernel
theorem dX3_readLine_24 : decode cX3_readLine 24 = .ok (.aload_n 0, 1) := by decide +kernel
theorem dX3_readLine_25 : decode cX3_readLine 25 = .ok (.getfield 9, 3) := by decide +kernel
theorem dX3_readLine_28 : decode cX3_readLine 28 = .ok (.invokevirtual 43, 3) := by decide +kernel
theorem dX3_readLine_31 : decode cX3_readLine 31 = .ok (.aload_n 0, 1) := by decide +kernel
theorem dX3_readLine_32 : decode cX3_readLine 32 = .ok (.iconst 0, 1) := by decide +kernel
theorem dX3_readLine_33 : decode cX3_readLine 33 = .ok (.invokevirtual 46, 3) := by decide +kernel
theorem dX3_readLine_36 : decode cX3_readLine 36 = .ok (.ifCond .eq 10, 3) := by decide +kernel
theorem dX3_readLine_39 : decode cX3_readLine 39 = .ok (.aload_n 0, 1) := by decide +kernel
theorem dX3_readLine_40 : decode cX3_readLine 40 = .ok (.invokevirtual 50, 3) := by decide +kernel
theorem dX3_readLine_43 : decode cX3_readLine 43 = .ok (.ifCond .ne 5, 3) := by decide +kernel
theorem dX3_readLine_46 : decode cX3_readLine 46 = .ok (.iconst 0, 1) := by decide +kernel
theorem dX3_readLine_47 : decode cX3_readLine 47 = .ok (.ireturn, 1) := by decide +kernel
theorem dX3_readLine_48 : decode cX3_readLine 48 = .ok (.aload_n 0, 1) := by decide +kernel
theorem dX3_readLine_49 : decode cX3_readLine 49 = .ok (.getfield 9, 3) := by decide +kernel
theorem dX3_readLine_52 : decode cX3_readLine 52 = .ok (.getfield 53, 3) := by decide +kernel
theorem dX3_readLine_55 : decode cX3_readLine 55 = .ok (.l2i, 1) := by decide +kernel
theorem dX3_readLine_56 : decode cX3_readLine 56 = .ok (.istore_n 3, 1) := by decide +kernel
theorem dX3_readLine_57 : decode cX3_readLine 57 = .ok (.aload_n 0, 1) := by decide +kernel
theorem dX3_readLine_58 : decode cX3_readLine 58 = .ok (.getfield 9, 3) := by decide +kernel
theorem dX3_readLine_61 : decode cX3_readLine 61 = .ok (.invokevirtual 43, 3) := by decide +kernel
theorem dX3_readLine_64 : decode cX3_readLine 64 = .ok (.aload_n 0, 1) := by decide +kernel
theorem dX3_readLine_65 : decode cX3_readLine 65 = .ok (.iconst 0, 1) := by decide +kernel
theorem dX3_readLine_66 : decode cX3_readLine 66 = .ok (.invokevirtual 46, 3) := by decide +kernel
theorem dX3_readLine_69 : decode cX3_readLine 69 = .ok (.ifCond .ne 5, 3) := by decide +kernel
theorem dX3_readLine_72 : decode cX3_readLine 72 = .ok (.iconst 0, 1) := by decide +kernel
theorem dX3_readLine_73 : decode cX3_readLine 73 = .ok (.ireturn, 1) := by decide +kernel
theorem dX3_readLine_74 : decode cX3_readLine 74 = .ok (.aload_n 0, 1) := by decide +kernel
theorem dX3_readLine_75 : decode cX3_readLine 75 = .ok (.getfield 15, 3) := by decide +kernel
theorem dX3_readLine_78 : decode cX3_readLine 78 = .ok (.sipush 20000, 3) := by decide +kernel
theorem dX3_readLine_81 : decode cX3_readLine 81 = .ok (.iload_n 3, 1) := by decide +kernel
theorem dX3_readLine_82 : decode cX3_readLine 82 = .ok (.iadd, 1) := by decide +kernel
theorem dX3_readLine_83 : decode cX3_readLine 83 = .ok (.invokevirtual 57, 3) := by decide +kernel
theorem dX3_readLine_86 : decode cX3_readLine 86 = .ok (.aload_n 0, 1) := by decide +kernel
theorem dX3_readLine_87 : decode cX3_readLine 87 = .ok (.getfield 9, 3) := by decide +kernel
theorem dX3_readLine_90 : decode cX3_readLine 90 = .ok (.ldc2_w 61, 3) := by decide +kernel
theorem dX3_readLine_93 : decode cX3_readLine 93 = .ok (.invokevirtual 63, 3) := by decide +kernel
theorem dX3_readLine_96 : decode cX3_readLine 96 = .ok (.istore_n 1, 1) := by decide +kernel
theorem dX3_readLine_97 : decode cX3_readLine 97 = .ok (.iinc 2 1, 3) := by decide +kernel
theorem dX3_readLine_100 : decode cX3_readLine 100 = .ok (.goto (-87), 3) := by decide +kernel
theorem dX3_readLine_103 : decode cX3_readLine 103 = .ok (.aload_n 0, 1) := by decide +kernel
theorem dX3_readLine_104 : decode cX3_readLine 104 = .ok (.getfield 9, 3) := by decide +kernel
theorem dX3_readLine_107 : decode cX3_readLine 107 = .ok (.bipush 59, 2) := by decide +kernel
theorem dX3_readLine_109 : decode cX3_readLine 109 = .ok (.invokevirtual 67, 3) := by decide +kernel
theorem dX3_readLine_112 : decode cX3_readLine 112 = .ok (.ifCond .ne 5, 3) := by decide +kernel
theorem dX3_readLine_115 : decode cX3_readLine 115 = .ok (.iconst 0, 1) := by decide +kernel
theorem dX3_readLine_116 : decode cX3_readLine 116 = .ok (.ireturn, 1) := by decide +kernel
theorem dX3_readLine_117 : decode cX3_readLine 117 = .ok (.aload_n 0, 1) := by decide +kernel
theorem dX3_readLine_118 : decode cX3_readLine 118 = .ok (.getfield 15, 3) := by decide +kernel
theorem dX3_readLine_121 : decode cX3_readLine 121 = .ok (.invokevirtual 70, 3) := by decide +kernel
theorem dX3_readLine_124 : decode cX3_readLine 124 = .ok (.aload_n 0, 1) := by decide +kernel
theorem dX3_readLine_125 : decode cX3_readLine 125 = .ok (.getfield 9, 3) := by decide +kernel
theorem dX3_readLine_128 : decode cX3_readLine 128 = .ok (.invokevirtual 43, 3) := by decide +kernel
theorem dX3_readLine_131 : decode cX3_readLine 131 = .ok (.iconst 1, 1) := by decide +kernel
theorem dX3_readLine_132 : decode cX3_readLine 132 = .ok (.ireturn, 1) := by decide +kernel
theorem dX3_readHead_0 : decode cX3_readHead 0 = .ok (.aload_n 0, 1) := by decide +kernel
theorem dX3_readHead_1 : decode cX3_readHead 1 = .ok (.getfield 9, 3) := by decide +kernel
theorem dX3_readHead_4 : decode cX3_readHead 4 = .ok (.ldc2_w 73, 3) := by decide +kernel
theorem dX3_readHead_7 : decode cX3_readHead 7 = .ok (.invokevirtual 63, 3) := by decide +kernel
theorem dX3_readHead_10 : decode cX3_readHead 10 = .ok (.ifCond .eq 15, 3) := by decide +kernel
theorem dX3_readHead_13 : decode cX3_readHead 13 = .ok (.aload_n 0, 1) := by decide +kernel
theorem dX3_readHead_14 : decode cX3_readHead 14 = .ok (.getfield 15, 3) := by decide +kernel
theorem dX3_readHead_17 : decode cX3_readHead 17 = .ok (.getfield 75, 3) := by decide +kernel
theorem dX3_readHead_20 : decode cX3_readHead 20 = .ok (.bipush 10, 2) := by decide +kernel
theorem dX3_readHead_22 : decode cX3_readHead 22 = .ok (.if_icmp .lt 5, 3) := by decide +kernel
theorem dX3_readHead_25 : decode cX3_readHead 25 = .ok (.iconst 0, 1) := by decide +kernel
theorem dX3_readHead_26 : decode cX3_readHead 26 = .ok (.ireturn, 1) := by decide +kernel
theorem dX3_readHead_27 : decode cX3_readHead 27 = .ok (.aload_n 0, 1) := by decide +kernel
theorem dX3_readHead_28 : decode cX3_readHead 28 = .ok (.getfield 9, 3) := by decide +kernel
theorem dX3_readHead_31 : decode cX3_readHead 31 = .ok (.invokevirtual 43, 3) := by decide +kernel
theorem dX3_readHead_34 : decode cX3_readHead 34 = .ok (.aload_n 0, 1) := by decide +kernel
theorem dX3_readHead_35 : decode cX3_readHead 35 = .ok (.invokevirtual 78, 3) := by decide +kernel
theorem dX3_readHead_38 : decode cX3_readHead 38 = .ok (.istore_n 1, 1) := by decide +kernel
theorem dX3_readHead_39 : decode cX3_readHead 39 = .ok (.iload_n 1, 1) := by decide +kernel
theorem dX3_readHead_40 : decode cX3_readHead 40 = .ok (.iconst (-1), 1) := by decide +kernel
theorem dX3_readHead_41 : decode cX3_readHead 41 = .ok (.if_icmp .ne 5, 3) := by decide +kernel
theorem dX3_readHead_44 : decode cX3_readHead 44 = .ok (.iconst 0, 1) := by decide +kernel
theorem dX3_readHead_45 : decode cX3_readHead 45 = .ok (.ireturn, 1) := by decide +kernel
theorem dX3_readHead_46 : decode cX3_readHead 46 = .ok (.aload_n 0, 1) := by decide +kernel
theorem dX3_readHead_47 : decode cX3_readHead 47 = .ok (.getfield 15, 3) := by decide +kernel
theorem dX3_readHead_50 : decode cX3_readHead 50 = .ok (.iload_n 1, 1) := by decide +kernel
theorem dX3_readHead_51 : decode cX3_readHead 51 = .ok (.invokevirtual 82, 3) := by decide +kernel
theorem dX3_readHead_54 : decode cX3_readHead 54 = .ok (.aload_n 0, 1) := by decide +kernel
theorem dX3_readHead_55 : decode cX3_readHead 55 = .ok (.getfield 9, 3) := by decide +kernel
theorem dX3_readHead_58 : decode cX3_readHead 58 = .ok (.invokevirtual 43, 3) := by decide +kernel
theorem dX3_readHead_61 : decode cX3_readHead 61 = .ok (.aload_n 0, 1) := by decide +kernel
theorem dX3_readHead_62 : decode cX3_readHead 62 = .ok (.getfield 9, 3) := by decide +kernel
theorem dX3_readHead_65 : decode cX3_readHead 65 = .ok (.ldc2_w 85, 3) := by decide +kernel
theorem dX3_readHead_68 : decode cX3_readHead 68 = .ok (.invokevirtual 63, 3) := by decide +kernel
theorem dX3_readHead_71 : decode cX3_readHead 71 = .ok (.ireturn, 1) := by decide +kernel
theorem dX3_isComparison_0 : decode cX3_isComparison 0 = .ok (.aload_n 0, 1) := by decide +kernel
theorem dX3_isComparison_1 : decode cX3_isComparison 1 = .ok (.getfield 9, 3) := by decide +kernel
theorem dX3_isComparison_4 : decode cX3_isComparison 4 = .ok (.bipush 60, 2) := by decide +kernel
theorem dX3_isComparison_6 : decode cX3_isComparison 6 = .ok (.invokevirtual 67, 3) := by decide +kernel
theorem dX3_isComparison_9 : decode cX3_isComparison 9 = .ok (.ifCond .ne 15, 3) := by decide +kernel
theorem dX3_isComparison_12 : decode cX3_isComparison 12 = .ok (.aload_n 0, 1) := by decide +kernel
theorem dX3_isComparison_13 : decode cX3_isComparison 13 = .ok (.getfield 9, 3) := by decide +kernel
theorem dX3_isComparison_16 : decode cX3_isComparison 16 = .ok (.bipush 61, 2) := by decide +kernel
theorem dX3_isComparison_18 : decode cX3_isComparison 18 = .ok (.invokevirtual 67, 3) := by decide +kernel
theorem dX3_isComparison_21 : decode cX3_isComparison 21 = .ok (.ifCond .eq 7, 3) := by decide +kernel
theorem dX3_isComparison_24 : decode cX3_isComparison 24 = .ok (.iconst 1, 1) := by decide +kernel
theorem dX3_isComparison_25 : decode cX3_isComparison 25 = .ok (.goto 4, 3) := by decide +kernel
theorem dX3_isComparison_28 : decode cX3_isComparison 28 = .ok (.iconst 0, 1) := by decide +kernel
theorem dX3_isComparison_29 : decode cX3_isComparison 29 = .ok (.ireturn, 1) := by decide +kernel
theorem dX3_readSum_0 : decode cX3_readSum 0 = .ok (.aload_n 0, 1) := by decide +kernel
theorem dX3_readSum_1 : decode cX3_readSum 1 = .ok (.iload_n 1, 1) := by decide +kernel
theorem dX3_readSum_2 : decode cX3_readSum 2 = .ok (.invokevirtual 87, 3) := by decide +kernel
theorem dX3_readSum_5 : decode cX3_readSum 5 = .ok (.ifCond .ne 5, 3) := by decide +kernel
theorem dX3_readSum_8 : decode cX3_readSum 8 = .ok (.iconst 0, 1) := by decide +kernel
theorem dX3_readSum_9 : decode cX3_readSum 9 = .ok (.ireturn, 1) := by decide +kernel
theorem dX3_readSum_10 : decode cX3_readSum 10 = .ok (.iconst 0, 1) := by decide +kernel
theorem dX3_readSum_11 : decode cX3_readSum 11 = .ok (.istore_n 2, 1) := by decide +kernel
theorem dX3_readSum_12 : decode cX3_readSum 12 = .ok (.iload_n 2, 1) := by decide +kernel
theorem dX3_readSum_13 : decode cX3_readSum 13 = .ok (.sipush 500, 3) := by decide +kernel
theorem dX3_readSum_16 : decode cX3_readSum 16 = .ok (.if_icmp .ge 71, 3) := by decide +kernel
theorem dX3_readSum_19 : decode cX3_readSum 19 = .ok (.aload_n 0, 1) := by decide +kernel
theorem dX3_readSum_20 : decode cX3_readSum 20 = .ok (.getfield 9, 3) := by decide +kernel
theorem dX3_readSum_23 : decode cX3_readSum 23 = .ok (.bipush 43, 2) := by decide +kernel
theorem dX3_readSum_25 : decode cX3_readSum 25 = .ok (.invokevirtual 67, 3) := by decide +kernel
theorem dX3_readSum_28 : decode cX3_readSum 28 = .ok (.ifCond .ne 15, 3) := by decide +kernel
theorem dX3_readSum_31 : decode cX3_readSum 31 = .ok (.aload_n 0, 1) := by decide +kernel
theorem dX3_readSum_32 : decode cX3_readSum 32 = .ok (.getfield 9, 3) := by decide +kernel
theorem dX3_readSum_35 : decode cX3_readSum 35 = .ok (.bipush 45, 2) := by decide +kernel
theorem dX3_readSum_37 : decode cX3_readSum 37 = .ok (.invokevirtual 67, 3) := by decide +kernel
theorem dX3_readSum_40 : decode cX3_readSum 40 = .ok (.ifCond .eq 47, 3) := by decide +kernel
theorem dX3_readSum_43 : decode cX3_readSum 43 = .ok (.aload_n 0, 1) := by decide +kernel
theorem dX3_readSum_44 : decode cX3_readSum 44 = .ok (.getfield 9, 3) := by decide +kernel
theorem dX3_readSum_47 : decode cX3_readSum 47 = .ok (.getfield 53, 3) := by decide +kernel
theorem dX3_readSum_50 : decode cX3_readSum 50 = .ok (.l2i, 1) := by decide +kernel
theorem dX3_readSum_51 : decode cX3_readSum 51 = .ok (.istore_n 3, 1) := by decide +kernel
theorem dX3_readSum_52 : decode cX3_readSum 52 = .ok (.aload_n 0, 1) := by decide +kernel
theorem dX3_readSum_53 : decode cX3_readSum 53 = .ok (.getfield 9, 3) := by decide +kernel
theorem dX3_readSum_56 : decode cX3_readSum 56 = .ok (.invokevirtual 43, 3) := by decide +kernel
theorem dX3_readSum_59 : decode cX3_readSum 59 = .ok (.aload_n 0, 1) := by decide +kernel
theorem dX3_readSum_60 : decode cX3_readSum 60 = .ok (.iload_n 1, 1) := by decide +kernel
theorem dX3_readSum_61 : decode cX3_readSum 61 = .ok (.invokevirtual 87, 3) := by decide +kernel
theorem dX3_readSum_64 : decode cX3_readSum 64 = .ok (.ifCond .ne 5, 3) := by decide +kernel
theorem dX3_readSum_67 : decode cX3_readSum 67 = .ok (.iconst 0, 1) := by decide +kernel
theorem dX3_readSum_68 : decode cX3_readSum 68 = .ok (.ireturn, 1) := by decide +kernel
theorem dX3_readSum_69 : decode cX3_readSum 69 = .ok (.aload_n 0, 1) := by decide +kernel
theorem dX3_readSum_70 : decode cX3_readSum 70 = .ok (.getfield 15, 3) := by decide +kernel
theorem dX3_readSum_73 : decode cX3_readSum 73 = .ok (.sipush 20000, 3) := by decide +kernel
theorem dX3_readSum_76 : decode cX3_readSum 76 = .ok (.iload_n 3, 1) := by decide +kernel
theorem dX3_readSum_77 : decode cX3_readSum 77 = .ok (.iadd, 1) := by decide +kernel
theorem dX3_readSum_78 : decode cX3_readSum 78 = .ok (.invokevirtual 57, 3) := by decide +kernel
theorem dX3_readSum_81 : decode cX3_readSum 81 = .ok (.iinc 2 1, 3) := by decide +kernel
theorem dX3_readSum_84 : decode cX3_readSum 84 = .ok (.goto (-72), 3) := by decide +kernel
theorem dX3_readSum_87 : decode cX3_readSum 87 = .ok (.iconst 1, 1) := by decide +kernel
theorem dX3_readSum_88 : decode cX3_readSum 88 = .ok (.ireturn, 1) := by decide +kernel
theorem dX3_readProduct_0 : decode cX3_readProduct 0 = .ok (.aload_n 0, 1) := by decide +kernel
theorem dX3_readProduct_1 : decode cX3_readProduct 1 = .ok (.iload_n 1, 1) := by decide +kernel
theorem dX3_readProduct_2 : decode cX3_readProduct 2 = .ok (.invokevirtual 90, 3) := by decide +kernel
theorem dX3_readProduct_5 : decode cX3_readProduct 5 = .ok (.ifCond .ne 5, 3) := by decide +kernel
theorem dX3_readProduct_8 : decode cX3_readProduct 8 = .ok (.iconst 0, 1) := by decide +kernel
theorem dX3_readProduct_9 : decode cX3_readProduct 9 = .ok (.ireturn, 1) := by decide +kernel
theorem dX3_readProduct_10 : decode cX3_readProduct 10 = .ok (.iconst 0, 1) := by decide +kernel
theorem dX3_readProduct_11 : decode cX3_readProduct 11 = .ok (.istore_n 2, 1) := by decide +kernel
theorem dX3_readProduct_12 : decode cX3_readProduct 12 = .ok (.iload_n 2, 1) := by decide +kernel
theorem dX3_readProduct_13 : decode cX3_readProduct 13 = .ok (.sipush 500, 3) := by decide +kernel
theorem dX3_readProduct_16 : decode cX3_readProduct 16 = .ok (.if_icmp .ge 48, 3) := by decide +kernel
theorem dX3_readProduct_19 : decode cX3_readProduct 19 = .ok (.aload_n 0, 1) := by decide +kernel
theorem dX3_readProduct_20 : decode cX3_readProduct 20 = .ok (.getfield 9, 3) := by decide +kernel
theorem dX3_readProduct_23 : decode cX3_readProduct 23 = .ok (.bipush 42, 2) := by decide +kernel
theorem dX3_readProduct_25 : decode cX3_readProduct 25 = .ok (.invokevirtual 67, 3) := by decide +kernel
theorem dX3_readProduct_28 : decode cX3_readProduct 28 = .ok (.ifCond .eq 36, 3) := by decide +kernel
theorem dX3_readProduct_31 : decode cX3_readProduct 31 = .ok (.aload_n 0, 1) := by decide +kernel
theorem dX3_readProduct_32 : decode cX3_readProduct 32 = .ok (.getfield 9, 3) := by decide +kernel
theorem dX3_readProduct_35 : decode cX3_readProduct 35 = .ok (.invokevirtual 43, 3) := by decide +kernel
theorem dX3_readProduct_38 : decode cX3_readProduct 38 = .ok (.aload_n 0, 1) := by decide +kernel
theorem dX3_readProduct_39 : decode cX3_readProduct 39 = .ok (.iload_n 1, 1) := by decide +kernel
theorem dX3_readProduct_40 : decode cX3_readProduct 40 = .ok (.invokevirtual 90, 3) := by decide +kernel
theorem dX3_readProduct_43 : decode cX3_readProduct 43 = .ok (.ifCond .ne 5, 3) := by decide +kernel
theorem dX3_readProduct_46 : decode cX3_readProduct 46 = .ok (.iconst 0, 1) := by decide +kernel
theorem dX3_readProduct_47 : decode cX3_readProduct 47 = .ok (.ireturn, 1) := by decide +kernel
theorem dX3_readProduct_48 : decode cX3_readProduct 48 = .ok (.aload_n 0, 1) := by decide +kernel
theorem dX3_readProduct_49 : decode cX3_readProduct 49 = .ok (.getfield 15, 3) := by decide +kernel
theorem dX3_readProduct_52 : decode cX3_readProduct 52 = .ok (.sipush 20042, 3) := by decide +kernel
theorem dX3_readProduct_55 : decode cX3_readProduct 55 = .ok (.invokevirtual 57, 3) := by decide +kernel
theorem dX3_readProduct_58 : decode cX3_readProduct 58 = .ok (.iinc 2 1, 3) := by decide +kernel
theorem dX3_readProduct_61 : decode cX3_readProduct 61 = .ok (.goto (-49), 3) := by decide +kernel
theorem dX3_readProduct_64 : decode cX3_readProduct 64 = .ok (.iconst 1, 1) := by decide +kernel
theorem dX3_readProduct_65 : decode cX3_readProduct 65 = .ok (.ireturn, 1) := by decide +kernel
theorem dX3_readFactor_0 : decode cX3_readFactor 0 = .ok (.aload_n 0, 1) := by decide +kernel
theorem dX3_readFactor_1 : decode cX3_readFactor 1 = .ok (.invokevirtual 93, 3) := by decide +kernel
theorem dX3_readFactor_4 : decode cX3_readFactor 4 = .ok (.istore_n 2, 1) := by decide +kernel
theorem dX3_readFactor_5 : decode cX3_readFactor 5 = .ok (.iload_n 2, 1) := by decide +kernel
theorem dX3_readFactor_6 : decode cX3_readFactor 6 = .ok (.iconst (-1), 1) := by decide +kernel
theorem dX3_readFactor_7 : decode cX3_readFactor 7 = .ok (.if_icmp .eq 20, 3) := by decide +kernel
theorem dX3_readFactor_10 : decode cX3_readFactor 10 = .ok (.aload_n 0, 1) := by decide +kernel
theorem dX3_readFactor_11 : decode cX3_readFactor 11 = .ok (.getfield 15, 3) := by decide +kernel
theorem dX3_readFactor_14 : decode cX3_readFactor 14 = .ok (.iload_n 2, 1) := by decide +kernel
theorem dX3_readFactor_15 : decode cX3_readFactor 15 = .ok (.invokevirtual 57, 3) := by decide +kernel
theorem dX3_readFactor_18 : decode cX3_readFactor 18 = .ok (.aload_n 0, 1) := by decide +kernel
theorem dX3_readFactor_19 : decode cX3_readFactor 19 = .ok (.getfield 9, 3) := by decide +kernel
theorem dX3_readFactor_22 : decode cX3_readFactor 22 = .ok (.invokevirtual 43, 3) := by decide +kernel
theorem dX3_readFactor_25 : decode cX3_readFactor 25 = .ok (.iconst 1, 1) := by decide +kernel
theorem dX3_readFactor_26 : decode cX3_readFactor 26 = .ok (.ireturn, 1) := by decide +kernel
theorem dX3_readFactor_27 : decode cX3_readFactor 27 = .ok (.iload_n 1, 1) := by decide +kernel
theorem dX3_readFactor_28 : decode cX3_readFactor 28 = .ok (.bipush 8, 2) := by decide +kernel
theorem dX3_readFactor_30 : decode cX3_readFactor 30 = .ok (.if_icmp .ge 15, 3) := by decide +kernel
theorem dX3_readFactor_33 : decode cX3_readFactor 33 = .ok (.aload_n 0, 1) := by decide +kernel
theorem dX3_readFactor_34 : decode cX3_readFactor 34 = .ok (.getfield 9, 3) := by decide +kernel
theorem dX3_readFactor_37 : decode cX3_readFactor 37 = .ok (.bipush 40, 2) := by decide +kernel
theorem dX3_readFactor_39 : decode cX3_readFactor 39 = .ok (.invokevirtual 67, 3) := by decide +kernel
theorem dX3_readFactor_42 : decode cX3_readFactor 42 = .ok (.ifCond .ne 5, 3) := by decide +kernel
theorem dX3_readFactor_45 : decode cX3_readFactor 45 = .ok (.iconst 0, 1) := by decide +kernel
theorem dX3_readFactor_46 : decode cX3_readFactor 46 = .ok (.ireturn, 1) := by decide +kernel
theorem dX3_readFactor_47 : decode cX3_readFactor 47 = .ok (.aload_n 0, 1) := by decide +kernel
theorem dX3_readFactor_48 : decode cX3_readFactor 48 = .ok (.getfield 9, 3) := by decide +kernel
theorem dX3_readFactor_51 : decode cX3_readFactor 51 = .ok (.invokevirtual 43, 3) := by decide +kernel
theorem dX3_readFactor_54 : decode cX3_readFactor 54 = .ok (.aload_n 0, 1) := by decide +kernel
theorem dX3_readFactor_55 : decode cX3_readFactor 55 = .ok (.iload_n 1, 1) := by decide +kernel
theorem dX3_readFactor_56 : decode cX3_readFactor 56 = .ok (.iconst 1, 1) := by decide +kernel
theorem dX3_readFactor_57 : decode cX3_readFactor 57 = .ok (.iadd, 1) := by decide +kernel
theorem dX3_readFactor_58 : decode cX3_readFactor 58 = .ok (.invokevirtual 46, 3) := by decide +kernel
theorem dX3_readFactor_61 : decode cX3_readFactor 61 = .ok (.ifCond .eq 15, 3) := by decide +kernel
theorem dX3_readFactor_64 : decode cX3_readFactor 64 = .ok (.aload_n 0, 1) := by decide +kernel
theorem dX3_readFactor_65 : decode cX3_readFactor 65 = .ok (.getfield 9, 3) := by decide +kernel
theorem dX3_readFactor_68 : decode cX3_readFactor 68 = .ok (.bipush 41, 2) := by decide +kernel
theorem dX3_readFactor_70 : decode cX3_readFactor 70 = .ok (.invokevirtual 67, 3) := by decide +kernel
theorem dX3_readFactor_73 : decode cX3_readFactor 73 = .ok (.ifCond .ne 5, 3) := by decide +kernel
theorem dX3_readFactor_76 : decode cX3_readFactor 76 = .ok (.iconst 0, 1) := by decide +kernel
theorem dX3_readFactor_77 : decode cX3_readFactor 77 = .ok (.ireturn, 1) := by decide +kernel
theorem dX3_readFactor_78 : decode cX3_readFactor 78 = .ok (.aload_n 0, 1) := by decide +kernel
theorem dX3_readFactor_79 : decode cX3_readFactor 79 = .ok (.getfield 9, 3) := by decide +kernel
theorem dX3_readFactor_82 : decode cX3_readFactor 82 = .ok (.invokevirtual 43, 3) := by decide +kernel
theorem dX3_readFactor_85 : decode cX3_readFactor 85 = .ok (.iconst 1, 1) := by decide +kernel
theorem dX3_readFactor_86 : decode cX3_readFactor 86 = .ok (.ireturn, 1) := by decide +kernel
theorem dX3_outcomeOfWord_0 : decode cX3_outcomeOfWord 0 = .ok (.aload_n 0, 1) := by decide +kernel
theorem dX3_outcomeOfWord_1 : decode cX3_outcomeOfWord 1 = .ok (.getfield 9, 3) := by decide +kernel
theorem dX3_outcomeOfWord_4 : decode cX3_outcomeOfWord 4 = .ok (.ldc2_w 96, 3) := by decide +kernel
theorem dX3_outcomeOfWord_7 : decode cX3_outcomeOfWord 7 = .ok (.invokevirtual 63, 3) := by decide +kernel
theorem dX3_outcomeOfWord_10 : decode cX3_outcomeOfWord 10 = .ok (.ifCond .eq 5, 3) := by decide +kernel
theorem dX3_outcomeOfWord_13 : decode cX3_outcomeOfWord 13 = .ok (.iconst 0, 1) := by decide +kernel
theorem dX3_outcomeOfWord_14 : decode cX3_outcomeOfWord 14 = .ok (.ireturn, 1) := by decide +kernel
theorem dX3_outcomeOfWord_15 : decode cX3_outcomeOfWord 15 = .ok (.aload_n 0, 1) := by decide +kernel
theorem dX3_outcomeOfWord_16 : decode cX3_outcomeOfWord 16 = .ok (.getfield 9, 3) := by decide +kernel
theorem dX3_outcomeOfWord_19 : decode cX3_outcomeOfWord 19 = .ok (.ldc2_w 98, 3) := by decide +kernel
theorem dX3_outcomeOfWord_22 : decode cX3_outcomeOfWord 22 = .ok (.invokevirtual 63, 3) := by decide +kernel
theorem dX3_outcomeOfWord_25 : decode cX3_outcomeOfWord 25 = .ok (.ifCond .eq 5, 3) := by decide +kernel
theorem dX3_outcomeOfWord_28 : decode cX3_outcomeOfWord 28 = .ok (.iconst 1, 1) := by decide +kernel
theorem dX3_outcomeOfWord_29 : decode cX3_outcomeOfWord 29 = .ok (.ireturn, 1) := by decide +kernel
theorem dX3_outcomeOfWord_30 : decode cX3_outcomeOfWord 30 = .ok (.aload_n 0, 1) := by decide +kernel
theorem dX3_outcomeOfWord_31 : decode cX3_outcomeOfWord 31 = .ok (.getfield 9, 3) := by decide +kernel
theorem dX3_outcomeOfWord_34 : decode cX3_outcomeOfWord 34 = .ok (.ldc2_w 100, 3) := by decide +kernel
theorem dX3_outcomeOfWord_37 : decode cX3_outcomeOfWord 37 = .ok (.invokevirtual 63, 3) := by decide +kernel
theorem dX3_outcomeOfWord_40 : decode cX3_outcomeOfWord 40 = .ok (.ifCond .eq 5, 3) := by decide +kernel
theorem dX3_outcomeOfWord_43 : decode cX3_outcomeOfWord 43 = .ok (.iconst 2, 1) := by decide +kernel
theorem dX3_outcomeOfWord_44 : decode cX3_outcomeOfWord 44 = .ok (.ireturn, 1) := by decide +kernel
theorem dX3_outcomeOfWord_45 : decode cX3_outcomeOfWord 45 = .ok (.aload_n 0, 1) := by decide +kernel
theorem dX3_outcomeOfWord_46 : decode cX3_outcomeOfWord 46 = .ok (.getfield 9, 3) := by decide +kernel
theorem dX3_outcomeOfWord_49 : decode cX3_outcomeOfWord 49 = .ok (.ldc2_w 102, 3) := by decide +kernel
theorem dX3_outcomeOfWord_52 : decode cX3_outcomeOfWord 52 = .ok (.invokevirtual 63, 3) := by decide +kernel
theorem dX3_outcomeOfWord_55 : decode cX3_outcomeOfWord 55 = .ok (.ifCond .eq 7, 3) := by decide +kernel
theorem dX3_outcomeOfWord_58 : decode cX3_outcomeOfWord 58 = .ok (.iconst 3, 1) := by decide +kernel
theorem dX3_outcomeOfWord_59 : decode cX3_outcomeOfWord 59 = .ok (.goto 4, 3) := by decide +kernel
theorem dX3_outcomeOfWord_62 : decode cX3_outcomeOfWord 62 = .ok (.iconst (-1), 1) := by decide +kernel
theorem dX3_outcomeOfWord_63 : decode cX3_outcomeOfWord 63 = .ok (.ireturn, 1) := by decide +kernel
theorem dX3_codeOfToken_0 : decode cX3_codeOfToken 0 = .ok (.aload_n 0, 1) := by decide +kernel
theorem dX3_codeOfToken_1 : decode cX3_codeOfToken 1 = .ok (.getfield 9, 3) := by decide +kernel
theorem dX3_codeOfToken_4 : decode cX3_codeOfToken 4 = .ok (.iconst 0, 1) := by decide +kernel
theorem dX3_codeOfToken_5 : decode cX3_codeOfToken 5 = .ok (.sipush 9999, 3) := by decide +kernel
theorem dX3_codeOfToken_8 : decode cX3_codeOfToken 8 = .ok (.invokevirtual 104, 3) := by decide +kernel
theorem dX3_codeOfToken_11 : decode cX3_codeOfToken 11 = .ok (.ifCond .eq 12, 3) := by decide +kernel
theorem dX3_codeOfToken_14 : decode cX3_codeOfToken 14 = .ok (.aload_n 0, 1) := by decide +kernel
theorem dX3_codeOfToken_15 : decode cX3_codeOfToken 15 = .ok (.getfield 9, 3) := by decide +kernel
theorem dX3_codeOfToken_18 : decode cX3_codeOfToken 18 = .ok (.getfield 53, 3) := by decide +kernel
theorem dX3_codeOfToken_21 : decode cX3_codeOfToken 21 = .ok (.l2i, 1) := by decide +kernel
theorem dX3_codeOfToken_22 : decode cX3_codeOfToken 22 = .ok (.ireturn, 1) := by decide +kernel
theorem dX3_codeOfToken_23 : decode cX3_codeOfToken 23 = .ok (.aload_n 0, 1) := by decide +kernel
theorem dX3_codeOfToken_24 : decode cX3_codeOfToken 24 = .ok (.getfield 9, 3) := by decide +kernel
theorem dX3_codeOfToken_27 : decode cX3_codeOfToken 27 = .ok (.ldc2_w 108, 3) := by decide +kernel
theorem dX3_codeOfToken_30 : decode cX3_codeOfToken 30 = .ok (.invokevirtual 63, 3) := by decide +kernel
theorem dX3_codeOfToken_33 : decode cX3_codeOfToken 33 = .ok (.ifCond .eq 7, 3) := by decide +kernel
theorem dX3_codeOfToken_36 : decode cX3_codeOfToken 36 = .ok (.sipush 10000, 3) := by decide +kernel
theorem dX3_codeOfToken_39 : decode cX3_codeOfToken 39 = .ok (.ireturn, 1) := by decide +kernel
theorem dX3_codeOfToken_40 : decode cX3_codeOfToken 40 = .ok (.aload_n 0, 1) := by decide +kernel
theorem dX3_codeOfToken_41 : decode cX3_codeOfToken 41 = .ok (.getfield 9, 3) := by decide +kernel
theorem dX3_codeOfToken_44 : decode cX3_codeOfToken 44 = .ok (.ldc2_w 110, 3) := by decide +kernel
theorem dX3_codeOfToken_47 : decode cX3_codeOfToken 47 = .ok (.invokevirtual 63, 3) := by decide +kernel
theorem dX3_codeOfToken_50 : decode cX3_codeOfToken 50 = .ok (.ifCond .eq 7, 3) := by decide +kernel
theorem dX3_codeOfToken_53 : decode cX3_codeOfToken 53 = .ok (.sipush 10001, 3) := by decide +kernel
theorem dX3_codeOfToken_56 : decode cX3_codeOfToken 56 = .ok (.ireturn, 1) := by decide +kernel
theorem dX3_codeOfToken_57 : decode cX3_codeOfToken 57 = .ok (.aload_n 0, 1) := by decide +kernel
theorem dX3_codeOfToken_58 : decode cX3_codeOfToken 58 = .ok (.getfield 9, 3) := by decide +kernel
theorem dX3_codeOfToken_61 : decode cX3_codeOfToken 61 = .ok (.ldc2_w 112, 3) := by decide +kernel
theorem dX3_codeOfToken_64 : decode cX3_codeOfToken 64 = .ok (.invokevirtual 63, 3) := by decide +kernel
theorem dX3_codeOfToken_67 : decode cX3_codeOfToken 67 = .ok (.ifCond .eq 7, 3) := by decide +kernel
theorem dX3_codeOfToken_70 : decode cX3_codeOfToken 70 = .ok (.sipush 10002, 3) := by decide +kernel
theorem dX3_codeOfToken_73 : decode cX3_codeOfToken 73 = .ok (.ireturn, 1) := by decide +kernel
theorem dX3_codeOfToken_74 : decode cX3_codeOfToken 74 = .ok (.aload_n 0, 1) := by decide +kernel
theorem dX3_codeOfToken_75 : decode cX3_codeOfToken 75 = .ok (.getfield 9, 3) := by decide +kernel
theorem dX3_codeOfToken_78 : decode cX3_codeOfToken 78 = .ok (.ldc2_w 114, 3) := by decide +kernel
theorem dX3_codeOfToken_81 : decode cX3_codeOfToken 81 = .ok (.invokevirtual 63, 3) := by decide +kernel
theorem dX3_codeOfToken_84 : decode cX3_codeOfToken 84 = .ok (.ifCond .eq 7, 3) := by decide +kernel
theorem dX3_codeOfToken_87 : decode cX3_codeOfToken 87 = .ok (.sipush 10003, 3) := by decide +kernel
theorem dX3_codeOfToken_90 : decode cX3_codeOfToken 90 = .ok (.ireturn, 1) := by decide +kernel
theorem dX3_codeOfToken_91 : decode cX3_codeOfToken 91 = .ok (.aload_n 0, 1) := by decide +kernel
theorem dX3_codeOfToken_92 : decode cX3_codeOfToken 92 = .ok (.getfield 9, 3) := by decide +kernel
theorem dX3_codeOfToken_95 : decode cX3_codeOfToken 95 = .ok (.ldc2_w 116, 3) := by decide +kernel
theorem dX3_codeOfToken_98 : decode cX3_codeOfToken 98 = .ok (.invokevirtual 63, 3) := by decide +kernel
theorem dX3_codeOfToken_101 : decode cX3_codeOfToken 101 = .ok (.ifCond .eq 7, 3) := by decide +kernel
theorem dX3_codeOfToken_104 : decode cX3_codeOfToken 104 = .ok (.sipush 10004, 3) := by decide +kernel
theorem dX3_codeOfToken_107 : decode cX3_codeOfToken 107 = .ok (.ireturn, 1) := by decide +kernel
theorem dX3_codeOfToken_108 : decode cX3_codeOfToken 108 = .ok (.aload_n 0, 1) := by decide +kernel
theorem dX3_codeOfToken_109 : decode cX3_codeOfToken 109 = .ok (.getfield 9, 3) := by decide +kernel
theorem dX3_codeOfToken_112 : decode cX3_codeOfToken 112 = .ok (.ldc2_w 118, 3) := by decide +kernel
theorem dX3_codeOfToken_115 : decode cX3_codeOfToken 115 = .ok (.invokevirtual 63, 3) := by decide +kernel
theorem dX3_codeOfToken_118 : decode cX3_codeOfToken 118 = .ok (.ifCond .eq 7, 3) := by decide +kernel
theorem dX3_codeOfToken_121 : decode cX3_codeOfToken 121 = .ok (.sipush 10005, 3) := by decide +kernel
theorem dX3_codeOfToken_124 : decode cX3_codeOfToken 124 = .ok (.ireturn, 1) := by decide +kernel
theorem dX3_codeOfToken_125 : decode cX3_codeOfToken 125 = .ok (.aload_n 0, 1) := by decide +kernel
theorem dX3_codeOfToken_126 : decode cX3_codeOfToken 126 = .ok (.getfield 9, 3) := by decide +kernel
theorem dX3_codeOfToken_129 : decode cX3_codeOfToken 129 = .ok (.ldc2_w 120, 3) := by decide +kernel
theorem dX3_codeOfToken_132 : decode cX3_codeOfToken 132 = .ok (.invokevirtual 63, 3) := by decide +kernel
theorem dX3_codeOfToken_135 : decode cX3_codeOfToken 135 = .ok (.ifCond .eq 9, 3) := by decide +kernel
theorem dX3_codeOfToken_138 : decode cX3_codeOfToken 138 = .ok (.sipush 10006, 3) := by decide +kernel
theorem dX3_codeOfToken_141 : decode cX3_codeOfToken 141 = .ok (.goto 4, 3) := by decide +kernel
theorem dX3_codeOfToken_144 : decode cX3_codeOfToken 144 = .ok (.iconst (-1), 1) := by decide +kernel
theorem dX3_codeOfToken_145 : decode cX3_codeOfToken 145 = .ok (.ireturn, 1) := by decide +kernel
theorem dX6_read_0 : decode cX6_read 0 = .ok (.aload_n 0, 1) := by decide +kernel
theorem dX6_read_1 : decode cX6_read 1 = .ok (.aload_n 1, 1) := by decide +kernel
theorem dX6_read_2 : decode cX6_read 2 = .ok (.putfield 23, 3) := by decide +kernel
theorem dX6_read_5 : decode cX6_read 5 = .ok (.aload_n 0, 1) := by decide +kernel
theorem dX6_read_6 : decode cX6_read 6 = .ok (.getfield 23, 3) := by decide +kernel
theorem dX6_read_9 : decode cX6_read 9 = .ok (.invokevirtual 38, 3) := by decide +kernel
theorem dX6_read_12 : decode cX6_read 12 = .ok (.aload_n 0, 1) := by decide +kernel
theorem dX6_read_13 : decode cX6_read 13 = .ok (.iconst 0, 1) := by decide +kernel
theorem dX6_read_14 : decode cX6_read 14 = .ok (.putfield 27, 3) := by decide +kernel
theorem dX6_read_17 : decode cX6_read 17 = .ok (.aload_n 0, 1) := by decide +kernel
theorem dX6_read_18 : decode cX6_read 18 = .ok (.getfield 9, 3) := by decide +kernel
theorem dX6_read_21 : decode cX6_read 21 = .ok (.invokevirtual 43, 3) := by decide +kernel
theorem dX6_read_24 : decode cX6_read 24 = .ok (.iconst 1, 1) := by decide +kernel
theorem dX6_read_25 : decode cX6_read 25 = .ok (.istore_n 2, 1) := by decide +kernel
theorem dX6_read_26 : decode cX6_read 26 = .ok (.iconst 0, 1) := by decide +kernel
theorem dX6_read_27 : decode cX6_read 27 = .ok (.istore_n 3, 1) := by decide +kernel
theorem dX6_read_28 : decode cX6_read 28 = .ok (.iload_n 3, 1) := by decide +kernel
theorem dX6_read_29 : decode cX6_read 29 = .ok (.sipush 500, 3) := by decide +kernel
theorem dX6_read_32 : decode cX6_read 32 = .ok (.if_icmp .ge 28, 3) := by decide +kernel
theorem dX6_read_35 : decode cX6_read 35 = .ok (.iload_n 2, 1) := by decide +kernel
theorem dX6_read_36 : decode cX6_read 36 = .ok (.ifCond .eq 24, 3) := by decide +kernel
theorem dX6_read_39 : decode cX6_read 39 = .ok (.aload_n 0, 1) := by decide +kernel
theorem dX6_read_40 : decode cX6_read 40 = .ok (.getfield 9, 3) := by decide +kernel
theorem dX6_read_43 : decode cX6_read 43 = .ok (.getfield 48, 3) := by decide +kernel
theorem dX6_read_46 : decode cX6_read 46 = .ok (.ifCond .eq 14, 3) := by decide +kernel
theorem dX6_read_49 : decode cX6_read 49 = .ok (.aload_n 0, 1) := by decide +kernel
theorem dX6_read_50 : decode cX6_read 50 = .ok (.invokevirtual 51, 3) := by decide +kernel
theorem dX6_read_53 : decode cX6_read 53 = .ok (.istore_n 2, 1) := by decide +kernel
theorem dX6_read_54 : decode cX6_read 54 = .ok (.iinc 3 1, 3) := by decide +kernel
theorem dX6_read_57 : decode cX6_read 57 = .ok (.goto (-29), 3) := by decide +kernel
theorem dX6_read_60 : decode cX6_read 60 = .ok (.iload_n 2, 1) := by decide +kernel
theorem dX6_read_61 : decode cX6_read 61 = .ok (.ifCond .eq 17, 3) := by decide +kernel
theorem dX6_read_64 : decode cX6_read 64 = .ok (.aload_n 0, 1) := by decide +kernel
theorem dX6_read_65 : decode cX6_read 65 = .ok (.getfield 23, 3) := by decide +kernel
theorem dX6_read_68 : decode cX6_read 68 = .ok (.invokevirtual 55, 3) := by decide +kernel
theorem dX6_read_71 : decode cX6_read 71 = .ok (.ifCond .eq 7, 3) := by decide +kernel
theorem dX6_read_74 : decode cX6_read 74 = .ok (.iconst (-1), 1) := by decide +kernel
theorem dX6_read_75 : decode cX6_read 75 = .ok (.goto 10, 3) := by decide +kernel
theorem dX6_read_78 : decode cX6_read 78 = .ok (.aload_n 0, 1) := by decide +kernel
theorem dX6_read_79 : decode cX6_read 79 = .ok (.getfield 9, 3) := by decide +kernel
theorem dX6_read_82 : decode cX6_read 82 = .ok (.getfield 58, 3) := by decide +kernel
theorem dX6_read_85 : decode cX6_read 85 = .ok (.ireturn, 1) := by decide +kernel
theorem dX6_readStatement_0 : decode cX6_readStatement 0 = .ok (.aload_n 0, 1) := by decide +kernel
theorem dX6_readStatement_1 : decode cX6_readStatement 1 = .ok (.getfield 9, 3) := by decide +kernel
theorem dX6_readStatement_4 : decode cX6_readStatement 4 = .ok (.ldc2_w 61, 3) := by decide +kernel
theorem dX6_readStatement_7 : decode cX6_readStatement 7 = .ok (.invokevirtual 63, 3) := by decide +kernel
theorem dX6_readStatement_10 : decode cX6_readStatement 10 = .ok (.ifCond .eq 8, 3) := by decide +kernel
theorem dX6_readStatement_13 : decode cX6_readStatement 13 = .ok (.aload_n 0, 1) := by decide +kernel
theorem dX6_readStatement_14 : decode cX6_readStatement 14 = .ok (.invokevirtual 67, 3) := by decide +kernel
theorem dX6_readStatement_17 : decode cX6_readStatement 17 = .ok (.ireturn, 1) := by decide +kernel
theorem dX6_readStatement_18 : decode cX6_readStatement 18 = .ok (.aload_n 0, 1) := by decide +kernel
theorem dX6_readStatement_19 : decode cX6_readStatement 19 = .ok (.getfield 9, 3) := by decide +kernel
theorem dX6_readStatement_22 : decode cX6_readStatement 22 = .ok (.ldc2_w 70, 3) := by decide +kernel
theorem dX6_readStatement_25 : decode cX6_readStatement 25 = .ok (.invokevirtual 63, 3) := by decide +kernel
theorem dX6_readStatement_28 : decode cX6_readStatement 28 = .ok (.ifCond .eq 8, 3) := by decide +kernel
theorem dX6_readStatement_31 : decode cX6_readStatement 31 = .ok (.aload_n 0, 1) := by decide +kernel
theorem dX6_readStatement_32 : decode cX6_readStatement 32 = .ok (.invokevirtual 72, 3) := by decide +kernel
theorem dX6_readStatement_35 : decode cX6_readStatement 35 = .ok (.ireturn, 1) := by decide +kernel
theorem dX6_readStatement_36 : decode cX6_readStatement 36 = .ok (.aload_n 0, 1) := by decide +kernel
theorem dX6_readStatement_37 : decode cX6_readStatement 37 = .ok (.getfield 9, 3) := by decide +kernel
theorem dX6_readStatement_40 : decode cX6_readStatement 40 = .ok (.ldc2_w 75, 3) := by decide +kernel
theorem dX6_readStatement_43 : decode cX6_readStatement 43 = .ok (.invokevirtual 63, 3) := by decide +kernel
theorem dX6_readStatement_46 : decode cX6_readStatement 46 = .ok (.ifCond .eq 8, 3) := by decide +kernel
theorem dX6_readStatement_49 : decode cX6_readStatement 49 = .ok (.aload_n 0, 1) := by decide +kernel
theorem dX6_readStatement_50 : decode cX6_readStatement 50 = .ok (.invokevirtual 77, 3) := by decide +kernel
theorem dX6_readStatement_53 : decode cX6_readStatement 53 = .ok (.ireturn, 1) := by decide +kernel
theorem dX6_readStatement_54 : decode cX6_readStatement 54 = .ok (.aload_n 0, 1) := by decide +kernel
theorem dX6_readStatement_55 : decode cX6_readStatement 55 = .ok (.getfield 9, 3) := by decide +kernel
theorem dX6_readStatement_58 : decode cX6_readStatement 58 = .ok (.ldc2_w 80, 3) := by decide +kernel
theorem dX6_readStatement_61 : decode cX6_readStatement 61 = .ok (.invokevirtual 63, 3) := by decide +kernel
theorem dX6_readStatement_64 : decode cX6_readStatement 64 = .ok (.ifCond .eq 8, 3) := by decide +kernel
theorem dX6_readStatement_67 : decode cX6_readStatement 67 = .ok (.aload_n 0, 1) := by decide +kernel
theorem dX6_readStatement_68 : decode cX6_readStatement 68 = .ok (.invokevirtual 82, 3) := by decide +kernel
theorem dX6_readStatement_71 : decode cX6_readStatement 71 = .ok (.ireturn, 1) := by decide +kernel
theorem dX6_readStatement_72 : decode cX6_readStatement 72 = .ok (.aload_n 0, 1) := by decide +kernel
theorem dX6_readStatement_73 : decode cX6_readStatement 73 = .ok (.getfield 9, 3) := by decide +kernel
theorem dX6_readStatement_76 : decode cX6_readStatement 76 = .ok (.ldc2_w 85, 3) := by decide +kernel
theorem dX6_readStatement_79 : decode cX6_readStatement 79 = .ok (.invokevirtual 63, 3) := by decide +kernel
theorem dX6_readStatement_82 : decode cX6_readStatement 82 = .ok (.ifCond .eq 8, 3) := by decide +kernel
theorem dX6_readStatement_85 : decode cX6_readStatement 85 = .ok (.aload_n 0, 1) := by decide +kernel
theorem dX6_readStatement_86 : decode cX6_readStatement 86 = .ok (.invokevirtual 87, 3) := by decide +kernel
theorem dX6_readStatement_89 : decode cX6_readStatement 89 = .ok (.ireturn, 1) := by decide +kernel
theorem dX6_readStatement_90 : decode cX6_readStatement 90 = .ok (.aload_n 0, 1) := by decide +kernel
theorem dX6_readStatement_91 : decode cX6_readStatement 91 = .ok (.getfield 9, 3) := by decide +kernel
theorem dX6_readStatement_94 : decode cX6_readStatement 94 = .ok (.ldc2_w 90, 3) := by decide +kernel
theorem dX6_readStatement_97 : decode cX6_readStatement 97 = .ok (.invokevirtual 63, 3) := by decide +kernel
theorem dX6_readStatement_100 : decode cX6_readStatement 100 = .ok (.ifCond .eq 14, 3) := by decide +kernel
theorem dX6_readStatement_103 : decode cX6_readStatement 103 = .ok (.aload_n 0, 1) := by decide +kernel
theorem dX6_readStatement_104 : decode cX6_readStatement 104 = .ok (.invokevirtual 92, 3) := by decide +kernel
theorem dX6_readStatement_107 : decode cX6_readStatement 107 = .ok (.ifCond .eq 7, 3) := by decide +kernel
theorem dX6_readStatement_110 : decode cX6_readStatement 110 = .ok (.iconst 1, 1) := by decide +kernel
theorem dX6_readStatement_111 : decode cX6_readStatement 111 = .ok (.goto 4, 3) := by decide +kernel
theorem dX6_readStatement_114 : decode cX6_readStatement 114 = .ok (.iconst 0, 1) := by decide +kernel
theorem dX6_readStatement_115 : decode cX6_readStatement 115 = .ok (.ireturn, 1) := by decide +kernel
theorem dX6_readSound_0 : decode cX6_readSound 0 = .ok (.aload_n 0, 1) := by decide +kernel
theorem dX6_readSound_1 : decode cX6_readSound 1 = .ok (.getfield 23, 3) := by decide +kernel
theorem dX6_readSound_4 : decode cX6_readSound 4 = .ok (.getfield 95, 3) := by decide +kernel
theorem dX6_readSound_7 : decode cX6_readSound 7 = .ok (.istore_n 1, 1) := by decide +kernel
theorem dX6_readSound_8 : decode cX6_readSound 8 = .ok (.iload_n 1, 1) := by decide +kernel
theorem dX6_readSound_9 : decode cX6_readSound 9 = .ok (.bipush 9, 2) := by decide +kernel
theorem dX6_readSound_11 : decode cX6_readSound 11 = .ok (.if_icmp .lt 5, 3) := by decide +kernel
theorem dX6_readSound_14 : decode cX6_readSound 14 = .ok (.iconst 0, 1) := by decide +kernel
theorem dX6_readSound_15 : decode cX6_readSound 15 = .ok (.ireturn, 1) := by decide +kernel
theorem dX6_readSound_16 : decode cX6_readSound 16 = .ok (.aload_n 0, 1) := by decide +kernel
theorem dX6_readSound_17 : decode cX6_readSound 17 = .ok (.getfield 9, 3) := by decide +kernel
theorem dX6_readSound_20 : decode cX6_readSound 20 = .ok (.invokevirtual 98, 3) := by decide +kernel
theorem dX6_readSound_23 : decode cX6_readSound 23 = .ok (.aload_n 0, 1) := by decide +kernel
theorem dX6_readSound_24 : decode cX6_readSound 24 = .ok (.getfield 9, 3) := by decide +kernel
theorem dX6_readSound_27 : decode cX6_readSound 27 = .ok (.invokevirtual 101, 3) := by decide +kernel
theorem dX6_readSound_30 : decode cX6_readSound 30 = .ok (.ifCond .eq 11, 3) := by decide +kernel
theorem dX6_readSound_33 : decode cX6_readSound 33 = .ok (.aload_n 0, 1) := by decide +kernel
theorem dX6_readSound_34 : decode cX6_readSound 34 = .ok (.invokevirtual 104, 3) := by decide +kernel
theorem dX6_readSound_37 : decode cX6_readSound 37 = .ok (.iconst (-1), 1) := by decide +kernel
theorem dX6_readSound_38 : decode cX6_readSound 38 = .ok (.if_icmp .eq 5, 3) := by decide +kernel
theorem dX6_readSound_41 : decode cX6_readSound 41 = .ok (.iconst 0, 1) := by decide +kernel
theorem dX6_readSound_42 : decode cX6_readSound 42 = .ok (.ireturn, 1) := by decide +kernel
theorem dX6_readSound_43 : decode cX6_readSound 43 = .ok (.aload_n 0, 1) := by decide +kernel
theorem dX6_readSound_44 : decode cX6_readSound 44 = .ok (.getfield 15, 3) := by decide +kernel
theorem dX6_readSound_47 : decode cX6_readSound 47 = .ok (.iload_n 1, 1) := by decide +kernel
theorem dX6_readSound_48 : decode cX6_readSound 48 = .ok (.aload_n 0, 1) := by decide +kernel
theorem dX6_readSound_49 : decode cX6_readSound 49 = .ok (.getfield 9, 3) := by decide +kernel
theorem dX6_readSound_52 : decode cX6_readSound 52 = .ok (.getfield 108, 3) := by decide +kernel
theorem dX6_readSound_55 : decode cX6_readSound 55 = .ok (.lastore, 1) := by decide +kernel
theorem dX6_readSound_56 : decode cX6_readSound 56 = .ok (.aload_n 0, 1) := by decide +kernel
theorem dX6_readSound_57 : decode cX6_readSound 57 = .ok (.getfield 9, 3) := by decide +kernel
theorem dX6_readSound_60 : decode cX6_readSound 60 = .ok (.invokevirtual 98, 3) := by decide +kernel
theorem dX6_readSound_63 : decode cX6_readSound 63 = .ok (.aload_n 0, 1) := by decide +kernel
theorem dX6_readSound_64 : decode cX6_readSound 64 = .ok (.getfield 9, 3) := by decide +kernel
theorem dX6_readSound_67 : decode cX6_readSound 67 = .ok (.iconst 0, 1) := by decide +kernel
theorem dX6_readSound_68 : decode cX6_readSound 68 = .ok (.bipush 99, 2) := by decide +kernel
theorem dX6_readSound_70 : decode cX6_readSound 70 = .ok (.invokevirtual 112, 3) := by decide +kernel
theorem dX6_readSound_73 : decode cX6_readSound 73 = .ok (.ifCond .ne 5, 3) := by decide +kernel
theorem dX6_readSound_76 : decode cX6_readSound 76 = .ok (.iconst 0, 1) := by decide +kernel
theorem dX6_readSound_77 : decode cX6_readSound 77 = .ok (.ireturn, 1) := by decide +kernel
theorem dX6_readSound_78 : decode cX6_readSound 78 = .ok (.aload_n 0, 1) := by decide +kernel
theorem dX6_readSound_79 : decode cX6_readSound 79 = .ok (.getfield 9, 3) := by decide +kernel
theorem dX6_readSound_82 : decode cX6_readSound 82 = .ok (.getfield 108, 3) := by decide +kernel
theorem dX6_readSound_85 : decode cX6_readSound 85 = .ok (.l2i, 1) := by decide +kernel
theorem dX6_readSound_86 : decode cX6_readSound 86 = .ok (.istore_n 2, 1) := by decide +kernel
theorem dX6_readSound_87 : decode cX6_readSound 87 = .ok (.aload_n 0, 1) := by decide +kernel
theorem dX6_readSound_88 : decode cX6_readSound 88 = .ok (.getfield 9, 3) := by decide +kernel
theorem dX6_readSound_91 : decode cX6_readSound 91 = .ok (.invokevirtual 98, 3) := by decide +kernel
theorem dX6_readSound_94 : decode cX6_readSound 94 = .ok (.aload_n 0, 1) := by decide +kernel
theorem dX6_readSound_95 : decode cX6_readSound 95 = .ok (.getfield 9, 3) := by decide +kernel
theorem dX6_readSound_98 : decode cX6_readSound 98 = .ok (.iconst 0, 1) := by decide +kernel
theorem dX6_readSound_99 : decode cX6_readSound 99 = .ok (.bipush 99, 2) := by decide +kernel
theorem dX6_readSound_101 : decode cX6_readSound 101 = .ok (.invokevirtual 112, 3) := by decide +kernel
theorem dX6_readSound_104 : decode cX6_readSound 104 = .ok (.ifCond .eq 22, 3) := by decide +kernel
theorem dX6_readSound_107 : decode cX6_readSound 107 = .ok (.aload_n 0, 1) := by decide +kernel
theorem dX6_readSound_108 : decode cX6_readSound 108 = .ok (.getfield 23, 3) := by decide +kernel
theorem dX6_readSound_111 : decode cX6_readSound 111 = .ok (.iload_n 2, 1) := by decide +kernel
theorem dX6_readSound_112 : decode cX6_readSound 112 = .ok (.aload_n 0, 1) := by decide +kernel
theorem dX6_readSound_113 : decode cX6_readSound 113 = .ok (.getfield 9, 3) := by decide +kernel
theorem dX6_readSound_116 : decode cX6_readSound 116 = .ok (.getfield 108, 3) := by decide +kernel
theorem dX6_readSound_119 : decode cX6_readSound 119 = .ok (.l2i, 1) := by decide +kernel
theorem dX6_readSound_120 : decode cX6_readSound 120 = .ok (.invokevirtual 116, 3) := by decide +kernel
theorem dX6_readSound_123 : decode cX6_readSound 123 = .ok (.ifCond .eq 5, 3) := by decide +kernel
theorem dX6_readSound_126 : decode cX6_readSound 126 = .ok (.iconst 0, 1) := by decide +kernel
theorem dX6_readSound_127 : decode cX6_readSound 127 = .ok (.ireturn, 1) := by decide +kernel
theorem dX6_readSound_128 : decode cX6_readSound 128 = .ok (.aload_n 0, 1) := by decide +kernel
theorem dX6_readSound_129 : decode cX6_readSound 129 = .ok (.getfield 23, 3) := by decide +kernel
theorem dX6_readSound_132 : decode cX6_readSound 132 = .ok (.getfield 119, 3) := by decide +kernel
theorem dX6_readSound_135 : decode cX6_readSound 135 = .ok (.iload_n 1, 1) := by decide +kernel
theorem dX6_readSound_136 : decode cX6_readSound 136 = .ok (.iload_n 2, 1) := by decide +kernel
theorem dX6_readSound_137 : decode cX6_readSound 137 = .ok (.iastore, 1) := by decide +kernel
theorem dX6_readSound_138 : decode cX6_readSound 138 = .ok (.aload_n 0, 1) := by decide +kernel
theorem dX6_readSound_139 : decode cX6_readSound 139 = .ok (.getfield 23, 3) := by decide +kernel
theorem dX6_readSound_142 : decode cX6_readSound 142 = .ok (.getfield 123, 3) := by decide +kernel
theorem dX6_readSound_145 : decode cX6_readSound 145 = .ok (.iload_n 1, 1) := by decide +kernel
theorem dX6_readSound_146 : decode cX6_readSound 146 = .ok (.aload_n 0, 1) := by decide +kernel
theorem dX6_readSound_147 : decode cX6_readSound 147 = .ok (.getfield 9, 3) := by decide +kernel
theorem dX6_readSound_150 : decode cX6_readSound 150 = .ok (.getfield 108, 3) := by decide +kernel
theorem dX6_readSound_153 : decode cX6_readSound 153 = .ok (.l2i, 1) := by decide +kernel
theorem dX6_readSound_154 : decode cX6_readSound 154 = .ok (.iastore, 1) := by decide +kernel
theorem dX6_readSound_155 : decode cX6_readSound 155 = .ok (.aload_n 0, 1) := by decide +kernel
theorem dX6_readSound_156 : decode cX6_readSound 156 = .ok (.getfield 23, 3) := by decide +kernel
theorem dX6_readSound_159 : decode cX6_readSound 159 = .ok (.getfield 126, 3) := by decide +kernel
theorem dX6_readSound_162 : decode cX6_readSound 162 = .ok (.iload_n 1, 1) := by decide +kernel
theorem dX6_readSound_163 : decode cX6_readSound 163 = .ok (.iconst 1, 1) := by decide +kernel
theorem dX6_readSound_164 : decode cX6_readSound 164 = .ok (.iastore, 1) := by decide +kernel
theorem dX6_readSound_165 : decode cX6_readSound 165 = .ok (.aload_n 0, 1) := by decide +kernel
theorem dX6_readSound_166 : decode cX6_readSound 166 = .ok (.getfield 19, 3) := by decide +kernel
theorem dX6_readSound_169 : decode cX6_readSound 169 = .ok (.iload_n 1, 1) := by decide +kernel
theorem dX6_readSound_170 : decode cX6_readSound 170 = .ok (.iconst 0, 1) := by decide +kernel
theorem dX6_readSound_171 : decode cX6_readSound 171 = .ok (.bastore, 1) := by decide +kernel
theorem dX6_readSound_172 : decode cX6_readSound 172 = .ok (.aload_n 0, 1) := by decide +kernel
theorem dX6_readSound_173 : decode cX6_readSound 173 = .ok (.getfield 23, 3) := by decide +kernel
theorem dX6_readSound_176 : decode cX6_readSound 176 = .ok (.iload_n 1, 1) := by decide +kernel
theorem dX6_readSound_177 : decode cX6_readSound 177 = .ok (.iconst 1, 1) := by decide +kernel
theorem dX6_readSound_178 : decode cX6_readSound 178 = .ok (.iadd, 1) := by decide +kernel
theorem dX6_readSound_179 : decode cX6_readSound 179 = .ok (.putfield 95, 3) := by decide +kernel
theorem dX6_readSound_182 : decode cX6_readSound 182 = .ok (.aload_n 0, 1) := by decide +kernel
theorem dX6_readSound_183 : decode cX6_readSound 183 = .ok (.getfield 9, 3) := by decide +kernel
theorem dX6_readSound_186 : decode cX6_readSound 186 = .ok (.invokevirtual 98, 3) := by decide +kernel
theorem dX6_readSound_189 : decode cX6_readSound 189 = .ok (.aload_n 0, 1) := by decide +kernel
theorem dX6_readSound_190 : decode cX6_readSound 190 = .ok (.invokevirtual 129, 3) := by decide +kernel
theorem dX6_readSound_193 : decode cX6_readSound 193 = .ok (.ireturn, 1) := by decide +kernel
theorem dX6_readVoice_0 : decode cX6_readVoice 0 = .ok (.aload_n 0, 1) := by decide +kernel
theorem dX6_readVoice_1 : decode cX6_readVoice 1 = .ok (.getfield 23, 3) := by decide +kernel
theorem dX6_readVoice_4 : decode cX6_readVoice 4 = .ok (.getfield 132, 3) := by decide +kernel
theorem dX6_readVoice_7 : decode cX6_readVoice 7 = .ok (.ifCond .gt 16, 3) := by decide +kernel
theorem dX6_readVoice_10 : decode cX6_readVoice 10 = .ok (.aload_n 0, 1) := by decide +kernel
theorem dX6_readVoice_11 : decode cX6_readVoice 11 = .ok (.iconst 1, 1) := by decide +kernel
theorem dX6_readVoice_12 : decode cX6_readVoice 12 = .ok (.bipush 60, 2) := by decide +kernel
theorem dX6_readVoice_14 : decode cX6_readVoice 14 = .ok (.iconst 0, 1) := by decide +kernel
theorem dX6_readVoice_15 : decode cX6_readVoice 15 = .ok (.bipush 9, 2) := by decide +kernel
theorem dX6_readVoice_17 : decode cX6_readVoice 17 = .ok (.invokevirtual 135, 3) := by decide +kernel
theorem dX6_readVoice_20 : decode cX6_readVoice 20 = .ok (.ifCond .ne 5, 3) := by decide +kernel
theorem dX6_readVoice_23 : decode cX6_readVoice 23 = .ok (.iconst 0, 1) := by decide +kernel
theorem dX6_readVoice_24 : decode cX6_readVoice 24 = .ok (.ireturn, 1) := by decide +kernel
theorem dX6_readVoice_25 : decode cX6_readVoice 25 = .ok (.aload_n 0, 1) := by decide +kernel
theorem dX6_readVoice_26 : decode cX6_readVoice 26 = .ok (.getfield 23, 3) := by decide +kernel
theorem dX6_readVoice_29 : decode cX6_readVoice 29 = .ok (.aload_n 0, 1) := by decide +kernel
theorem dX6_readVoice_30 : decode cX6_readVoice 30 = .ok (.getfield 31, 3) := by decide +kernel
theorem dX6_readVoice_33 : decode cX6_readVoice 33 = .ok (.putfield 132, 3) := by decide +kernel
theorem dX6_readVoice_36 : decode cX6_readVoice 36 = .ok (.aload_n 0, 1) := by decide +kernel
theorem dX6_readVoice_37 : decode cX6_readVoice 37 = .ok (.getfield 23, 3) := by decide +kernel
theorem dX6_readVoice_40 : decode cX6_readVoice 40 = .ok (.aload_n 0, 1) := by decide +kernel
theorem dX6_readVoice_41 : decode cX6_readVoice 41 = .ok (.getfield 35, 3) := by decide +kernel
theorem dX6_readVoice_44 : decode cX6_readVoice 44 = .ok (.putfield 139, 3) := by decide +kernel
theorem dX6_readVoice_47 : decode cX6_readVoice 47 = .ok (.aload_n 0, 1) := by decide +kernel
theorem dX6_readVoice_48 : decode cX6_readVoice 48 = .ok (.invokevirtual 129, 3) := by decide +kernel
theorem dX6_readVoice_51 : decode cX6_readVoice 51 = .ok (.ireturn, 1) := by decide +kernel
theorem dX6_readFace_0 : decode cX6_readFace 0 = .ok (.aload_n 0, 1) := by decide +kernel
theorem dX6_readFace_1 : decode cX6_readFace 1 = .ok (.getfield 23, 3) := by decide +kernel
theorem dX6_readFace_4 : decode cX6_readFace 4 = .ok (.getfield 142, 3) := by decide +kernel
theorem dX6_readFace_7 : decode cX6_readFace 7 = .ok (.ifCond .gt 16, 3) := by decide +kernel
theorem dX6_readFace_10 : decode cX6_readFace 10 = .ok (.aload_n 0, 1) := by decide +kernel
theorem dX6_readFace_11 : decode cX6_readFace 11 = .ok (.iconst 1, 1) := by decide +kernel
theorem dX6_readFace_12 : decode cX6_readFace 12 = .ok (.bipush 60, 2) := by decide +kernel
theorem dX6_readFace_14 : decode cX6_readFace 14 = .ok (.iconst 0, 1) := by decide +kernel
theorem dX6_readFace_15 : decode cX6_readFace 15 = .ok (.bipush 9, 2) := by decide +kernel
theorem dX6_readFace_17 : decode cX6_readFace 17 = .ok (.invokevirtual 135, 3) := by decide +kernel
theorem dX6_readFace_20 : decode cX6_readFace 20 = .ok (.ifCond .ne 5, 3) := by decide +kernel
theorem dX6_readFace_23 : decode cX6_readFace 23 = .ok (.iconst 0, 1) := by decide +kernel
theorem dX6_readFace_24 : decode cX6_readFace 24 = .ok (.ireturn, 1) := by decide +kernel
theorem dX6_readFace_25 : decode cX6_readFace 25 = .ok (.aload_n 0, 1) := by decide +kernel
theorem dX6_readFace_26 : decode cX6_readFace 26 = .ok (.getfield 23, 3) := by decide +kernel
theorem dX6_readFace_29 : decode cX6_readFace 29 = .ok (.aload_n 0, 1) := by decide +kernel
theorem dX6_readFace_30 : decode cX6_readFace 30 = .ok (.getfield 31, 3) := by decide +kernel
theorem dX6_readFace_33 : decode cX6_readFace 33 = .ok (.putfield 142, 3) := by decide +kernel
theorem dX6_readFace_36 : decode cX6_readFace 36 = .ok (.aload_n 0, 1) := by decide +kernel
theorem dX6_readFace_37 : decode cX6_readFace 37 = .ok (.getfield 23, 3) := by decide +kernel
theorem dX6_readFace_40 : decode cX6_readFace 40 = .ok (.aload_n 0, 1) := by decide +kernel
theorem dX6_readFace_41 : decode cX6_readFace 41 = .ok (.getfield 35, 3) := by decide +kernel
theorem dX6_readFace_44 : decode cX6_readFace 44 = .ok (.putfield 145, 3) := by decide +kernel
theorem dX6_readFace_47 : decode cX6_readFace 47 = .ok (.aload_n 0, 1) := by decide +kernel
theorem dX6_readFace_48 : decode cX6_readFace 48 = .ok (.invokevirtual 129, 3) := by decide +kernel
theorem dX6_readFace_51 : decode cX6_readFace 51 = .ok (.ireturn, 1) := by decide +kernel
theorem dX6_readOdds_0 : decode cX6_readOdds 0 = .ok (.aload_n 0, 1) := by decide +kernel
theorem dX6_readOdds_1 : decode cX6_readOdds 1 = .ok (.getfield 27, 3) := by decide +kernel
theorem dX6_readOdds_4 : decode cX6_readOdds 4 = .ok (.ifCond .ne 16, 3) := by decide +kernel
theorem dX6_readOdds_7 : decode cX6_readOdds 7 = .ok (.aload_n 0, 1) := by decide +kernel
theorem dX6_readOdds_8 : decode cX6_readOdds 8 = .ok (.iconst 0, 1) := by decide +kernel
theorem dX6_readOdds_9 : decode cX6_readOdds 9 = .ok (.bipush 16, 2) := by decide +kernel
theorem dX6_readOdds_11 : decode cX6_readOdds 11 = .ok (.iconst 1, 1) := by decide +kernel
theorem dX6_readOdds_12 : decode cX6_readOdds 12 = .ok (.bipush 99, 2) := by decide +kernel
theorem dX6_readOdds_14 : decode cX6_readOdds 14 = .ok (.invokevirtual 135, 3) := by decide +kernel
theorem dX6_readOdds_17 : decode cX6_readOdds 17 = .ok (.ifCond .ne 5, 3) := by decide +kernel
theorem dX6_readOdds_20 : decode cX6_readOdds 20 = .ok (.iconst 0, 1) := by decide +kernel
theorem dX6_readOdds_21 : decode cX6_readOdds 21 = .ok (.ireturn, 1) := by decide +kernel
theorem dX6_readOdds_22 : decode cX6_readOdds 22 = .ok (.aload_n 0, 1) := by decide +kernel
theorem dX6_readOdds_23 : decode cX6_readOdds 23 = .ok (.iconst 1, 1) := by decide +kernel
theorem dX6_readOdds_24 : decode cX6_readOdds 24 = .ok (.putfield 27, 3) := by decide +kernel
theorem dX6_readOdds_27 : decode cX6_readOdds 27 = .ok (.aload_n 0, 1) := by decide +kernel
theorem dX6_readOdds_28 : decode cX6_readOdds 28 = .ok (.getfield 23, 3) := by decide +kernel
theorem dX6_readOdds_31 : decode cX6_readOdds 31 = .ok (.aload_n 0, 1) := by decide +kernel
theorem dX6_readOdds_32 : decode cX6_readOdds 32 = .ok (.getfield 31, 3) := by decide +kernel
theorem dX6_readOdds_35 : decode cX6_readOdds 35 = .ok (.putfield 148, 3) := by decide +kernel
theorem dX6_readOdds_38 : decode cX6_readOdds 38 = .ok (.aload_n 0, 1) := by decide +kernel
theorem dX6_readOdds_39 : decode cX6_readOdds 39 = .ok (.getfield 23, 3) := by decide +kernel
theorem dX6_readOdds_42 : decode cX6_readOdds 42 = .ok (.aload_n 0, 1) := by decide +kernel
theorem dX6_readOdds_43 : decode cX6_readOdds 43 = .ok (.getfield 35, 3) := by decide +kernel
theorem dX6_readOdds_46 : decode cX6_readOdds 46 = .ok (.putfield 151, 3) := by decide +kernel
theorem dX6_readOdds_49 : decode cX6_readOdds 49 = .ok (.aload_n 0, 1) := by decide +kernel
theorem dX6_readOdds_50 : decode cX6_readOdds 50 = .ok (.invokevirtual 129, 3) := by decide +kernel
theorem dX6_readOdds_53 : decode cX6_readOdds 53 = .ok (.ireturn, 1) := by decide +kernel
theorem dX6_readHold_0 : decode cX6_readHold 0 = .ok (.aload_n 0, 1) := by decide +kernel
theorem dX6_readHold_1 : decode cX6_readHold 1 = .ok (.getfield 9, 3) := by decide +kernel
theorem dX6_readHold_4 : decode cX6_readHold 4 = .ok (.invokevirtual 98, 3) := by decide +kernel
theorem dX6_readHold_7 : decode cX6_readHold 7 = .ok (.aload_n 0, 1) := by decide +kernel
theorem dX6_readHold_8 : decode cX6_readHold 8 = .ok (.invokevirtual 104, 3) := by decide +kernel
theorem dX6_readHold_11 : decode cX6_readHold 11 = .ok (.istore_n 1, 1) := by decide +kernel
theorem dX6_readHold_12 : decode cX6_readHold 12 = .ok (.iload_n 1, 1) := by decide +kernel
theorem dX6_readHold_13 : decode cX6_readHold 13 = .ok (.iconst (-1), 1) := by decide +kernel
theorem dX6_readHold_14 : decode cX6_readHold 14 = .ok (.if_icmp .eq 12, 3) := by decide +kernel
theorem dX6_readHold_17 : decode cX6_readHold 17 = .ok (.aload_n 0, 1) := by decide +kernel
theorem dX6_readHold_18 : decode cX6_readHold 18 = .ok (.getfield 19, 3) := by decide +kernel
theorem dX6_readHold_21 : decode cX6_readHold 21 = .ok (.iload_n 1, 1) := by decide +kernel
theorem dX6_readHold_22 : decode cX6_readHold 22 = .ok (.baload, 1) := by decide +kernel
theorem dX6_readHold_23 : decode cX6_readHold 23 = .ok (.ifCond .eq 5, 3) := by decide +kernel
theorem dX6_readHold_26 : decode cX6_readHold 26 = .ok (.iconst 0, 1) := by decide +kernel
theorem dX6_readHold_27 : decode cX6_readHold 27 = .ok (.ireturn, 1) := by decide +kernel
theorem dX6_readHold_28 : decode cX6_readHold 28 = .ok (.aload_n 0, 1) := by decide +kernel
theorem dX6_readHold_29 : decode cX6_readHold 29 = .ok (.getfield 9, 3) := by decide +kernel
theorem dX6_readHold_32 : decode cX6_readHold 32 = .ok (.invokevirtual 98, 3) := by decide +kernel
theorem dX6_readHold_35 : decode cX6_readHold 35 = .ok (.aload_n 0, 1) := by decide +kernel
theorem dX6_readHold_36 : decode cX6_readHold 36 = .ok (.getfield 9, 3) := by decide +kernel
theorem dX6_readHold_39 : decode cX6_readHold 39 = .ok (.iconst 1, 1) := by decide +kernel
theorem dX6_readHold_40 : decode cX6_readHold 40 = .ok (.bipush 9, 2) := by decide +kernel
theorem dX6_readHold_42 : decode cX6_readHold 42 = .ok (.invokevirtual 112, 3) := by decide +kernel
theorem dX6_readHold_45 : decode cX6_readHold 45 = .ok (.ifCond .ne 5, 3) := by decide +kernel
theorem dX6_readHold_48 : decode cX6_readHold 48 = .ok (.iconst 0, 1) := by decide +kernel
theorem dX6_readHold_49 : decode cX6_readHold 49 = .ok (.ireturn, 1) := by decide +kernel
theorem dX6_readHold_50 : decode cX6_readHold 50 = .ok (.aload_n 0, 1) := by decide +kernel
theorem dX6_readHold_51 : decode cX6_readHold 51 = .ok (.getfield 19, 3) := by decide +kernel
theorem dX6_readHold_54 : decode cX6_readHold 54 = .ok (.iload_n 1, 1) := by decide +kernel
theorem dX6_readHold_55 : decode cX6_readHold 55 = .ok (.iconst 1, 1) := by decide +kernel
theorem dX6_readHold_56 : decode cX6_readHold 56 = .ok (.bastore, 1) := by decide +kernel
theorem dX6_readHold_57 : decode cX6_readHold 57 = .ok (.aload_n 0, 1) := by decide +kernel
theorem dX6_readHold_58 : decode cX6_readHold 58 = .ok (.getfield 23, 3) := by decide +kernel
theorem dX6_readHold_61 : decode cX6_readHold 61 = .ok (.getfield 126, 3) := by decide +kernel
theorem dX6_readHold_64 : decode cX6_readHold 64 = .ok (.iload_n 1, 1) := by decide +kernel
theorem dX6_readHold_65 : decode cX6_readHold 65 = .ok (.aload_n 0, 1) := by decide +kernel
theorem dX6_readHold_66 : decode cX6_readHold 66 = .ok (.getfield 9, 3) := by decide +kernel
theorem dX6_readHold_69 : decode cX6_readHold 69 = .ok (.getfield 108, 3) := by decide +kernel
theorem dX6_readHold_72 : decode cX6_readHold 72 = .ok (.l2i, 1) := by decide +kernel
theorem dX6_readHold_73 : decode cX6_readHold 73 = .ok (.iastore, 1) := by decide +kernel
theorem dX6_readHold_74 : decode cX6_readHold 74 = .ok (.aload_n 0, 1) := by decide +kernel
theorem dX6_readHold_75 : decode cX6_readHold 75 = .ok (.getfield 9, 3) := by decide +kernel
theorem dX6_readHold_78 : decode cX6_readHold 78 = .ok (.invokevirtual 98, 3) := by decide +kernel
theorem dX6_readHold_81 : decode cX6_readHold 81 = .ok (.aload_n 0, 1) := by decide +kernel
theorem dX6_readHold_82 : decode cX6_readHold 82 = .ok (.invokevirtual 129, 3) := by decide +kernel
theorem dX6_readHold_85 : decode cX6_readHold 85 = .ok (.ireturn, 1) := by decide +kernel
theorem dX6_readLearn_0 : decode cX6_readLearn 0 = .ok (.aload_n 0, 1) := by decide +kernel
theorem dX6_readLearn_1 : decode cX6_readLearn 1 = .ok (.getfield 23, 3) := by decide +kernel
theorem dX6_readLearn_4 : decode cX6_readLearn 4 = .ok (.getfield 154, 3) := by decide +kernel
theorem dX6_readLearn_7 : decode cX6_readLearn 7 = .ok (.istore_n 1, 1) := by decide +kernel
theorem dX6_readLearn_8 : decode cX6_readLearn 8 = .ok (.iload_n 1, 1) := by decide +kernel
theorem dX6_readLearn_9 : decode cX6_readLearn 9 = .ok (.bipush 12, 2) := by decide +kernel
theorem dX6_readLearn_11 : decode cX6_readLearn 11 = .ok (.if_icmp .lt 5, 3) := by decide +kernel
theorem dX6_readLearn_14 : decode cX6_readLearn 14 = .ok (.iconst 0, 1) := by decide +kernel
theorem dX6_readLearn_15 : decode cX6_readLearn 15 = .ok (.ireturn, 1) := by decide +kernel
theorem dX6_readLearn_16 : decode cX6_readLearn 16 = .ok (.aload_n 0, 1) := by decide +kernel
theorem dX6_readLearn_17 : decode cX6_readLearn 17 = .ok (.getfield 9, 3) := by decide +kernel
theorem dX6_readLearn_20 : decode cX6_readLearn 20 = .ok (.invokevirtual 98, 3) := by decide +kernel
theorem dX6_readLearn_23 : decode cX6_readLearn 23 = .ok (.aload_n 0, 1) := by decide +kernel
theorem dX6_readLearn_24 : decode cX6_readLearn 24 = .ok (.invokevirtual 104, 3) := by decide +kernel
theorem dX6_readLearn_27 : decode cX6_readLearn 27 = .ok (.istore_n 2, 1) := by decide +kernel
theorem dX6_readLearn_28 : decode cX6_readLearn 28 = .ok (.iload_n 2, 1) := by decide +kernel
theorem dX6_readLearn_29 : decode cX6_readLearn 29 = .ok (.iconst (-1), 1) := by decide +kernel
theorem dX6_readLearn_30 : decode cX6_readLearn 30 = .ok (.if_icmp .ne 5, 3) := by decide +kernel
theorem dX6_readLearn_33 : decode cX6_readLearn 33 = .ok (.iconst 0, 1) := by decide +kernel
theorem dX6_readLearn_34 : decode cX6_readLearn 34 = .ok (.ireturn, 1) := by decide +kernel
theorem dX6_readLearn_35 : decode cX6_readLearn 35 = .ok (.aload_n 0, 1) := by decide +kernel
theorem dX6_readLearn_36 : decode cX6_readLearn 36 = .ok (.getfield 9, 3) := by decide +kernel
theorem dX6_readLearn_39 : decode cX6_readLearn 39 = .ok (.invokevirtual 98, 3) := by decide +kernel
theorem dX6_readLearn_42 : decode cX6_readLearn 42 = .ok (.aload_n 0, 1) := by decide +kernel
theorem dX6_readLearn_43 : decode cX6_readLearn 43 = .ok (.invokevirtual 104, 3) := by decide +kernel
theorem dX6_readLearn_46 : decode cX6_readLearn 46 = .ok (.istore_n 3, 1) := by decide +kernel
theorem dX6_readLearn_47 : decode cX6_readLearn 47 = .ok (.iload_n 3, 1) := by decide +kernel
theorem dX6_readLearn_48 : decode cX6_readLearn 48 = .ok (.iconst (-1), 1) := by decide +kernel
theorem dX6_readLearn_49 : decode cX6_readLearn 49 = .ok (.if_icmp .eq 16, 3) := by decide +kernel
theorem dX6_readLearn_52 : decode cX6_readLearn 52 = .ok (.aload_n 0, 1) := by decide +kernel
theorem dX6_readLearn_53 : decode cX6_readLearn 53 = .ok (.getfield 23, 3) := by decide +kernel
theorem dX6_readLearn_56 : decode cX6_readLearn 56 = .ok (.iload_n 2, 1) := by decide +kernel
theorem dX6_readLearn_57 : decode cX6_readLearn 57 = .ok (.iload_n 3, 1) := by decide +kernel
theorem dX6_readLearn_58 : decode cX6_readLearn 58 = .ok (.invokevirtual 157, 3) := by decide +kernel
theorem dX6_readLearn_61 : decode cX6_readLearn 61 = .ok (.iconst (-1), 1) := by decide +kernel
theorem dX6_readLearn_62 : decode cX6_readLearn 62 = .ok (.if_icmp .eq 5, 3) := by decide +kernel
theorem dX6_readLearn_65 : decode cX6_readLearn 65 = .ok (.iconst 0, 1) := by decide +kernel
theorem dX6_readLearn_66 : decode cX6_readLearn 66 = .ok (.ireturn, 1) := by decide +kernel
theorem dX6_readLearn_67 : decode cX6_readLearn 67 = .ok (.aload_n 0, 1) := by decide +kernel
theorem dX6_readLearn_68 : decode cX6_readLearn 68 = .ok (.getfield 9, 3) := by decide +kernel
theorem dX6_readLearn_71 : decode cX6_readLearn 71 = .ok (.invokevirtual 98, 3) := by decide +kernel
theorem dX6_readLearn_74 : decode cX6_readLearn 74 = .ok (.aload_n 0, 1) := by decide +kernel
theorem dX6_readLearn_75 : decode cX6_readLearn 75 = .ok (.invokevirtual 104, 3) := by decide +kernel
theorem dX6_readLearn_78 : decode cX6_readLearn 78 = .ok (.istore 4, 2) := by decide +kernel
theorem dX6_readLearn_80 : decode cX6_readLearn 80 = .ok (.iload 4, 2) := by decide +kernel
theorem dX6_readLearn_82 : decode cX6_readLearn 82 = .ok (.iconst (-1), 1) := by decide +kernel
theorem dX6_readLearn_83 : decode cX6_readLearn 83 = .ok (.if_icmp .ne 5, 3) := by decide +kernel
theorem dX6_readLearn_86 : decode cX6_readLearn 86 = .ok (.iconst 0, 1) := by decide +kernel
theorem dX6_readLearn_87 : decode cX6_readLearn 87 = .ok (.ireturn, 1) := by decide +kernel
theorem dX6_readLearn_88 : decode cX6_readLearn 88 = .ok (.aload_n 0, 1) := by decide +kernel
theorem dX6_readLearn_89 : decode cX6_readLearn 89 = .ok (.getfield 23, 3) := by decide +kernel
theorem dX6_readLearn_92 : decode cX6_readLearn 92 = .ok (.getfield 161, 3) := by decide +kernel
theorem dX6_readLearn_95 : decode cX6_readLearn 95 = .ok (.iload_n 1, 1) := by decide +kernel
theorem dX6_readLearn_96 : decode cX6_readLearn 96 = .ok (.iload_n 2, 1) := by decide +kernel
theorem dX6_readLearn_97 : decode cX6_readLearn 97 = .ok (.bipush 10, 2) := by decide +kernel
theorem dX6_readLearn_99 : decode cX6_readLearn 99 = .ok (.imul, 1) := by decide +kernel
theorem dX6_readLearn_100 : decode cX6_readLearn 100 = .ok (.iload_n 3, 1) := by decide +kernel
theorem dX6_readLearn_101 : decode cX6_readLearn 101 = .ok (.iadd, 1) := by decide +kernel
theorem dX6_readLearn_102 : decode cX6_readLearn 102 = .ok (.iastore, 1) := by decide +kernel
theorem dX6_readLearn_103 : decode cX6_readLearn 103 = .ok (.aload_n 0, 1) := by decide +kernel
theorem dX6_readLearn_104 : decode cX6_readLearn 104 = .ok (.getfield 23, 3) := by decide +kernel
theorem dX6_readLearn_107 : decode cX6_readLearn 107 = .ok (.getfield 164, 3) := by decide +kernel
theorem dX6_readLearn_110 : decode cX6_readLearn 110 = .ok (.iload_n 1, 1) := by decide +kernel
theorem dX6_readLearn_111 : decode cX6_readLearn 111 = .ok (.iload 4, 2) := by decide +kernel
theorem dX6_readLearn_113 : decode cX6_readLearn 113 = .ok (.iastore, 1) := by decide +kernel
theorem dX6_readLearn_114 : decode cX6_readLearn 114 = .ok (.aload_n 0, 1) := by decide +kernel
theorem dX6_readLearn_115 : decode cX6_readLearn 115 = .ok (.getfield 23, 3) := by decide +kernel
theorem dX6_readLearn_118 : decode cX6_readLearn 118 = .ok (.iload_n 1, 1) := by decide +kernel
theorem dX6_readLearn_119 : decode cX6_readLearn 119 = .ok (.iconst 1, 1) := by decide +kernel
theorem dX6_readLearn_120 : decode cX6_readLearn 120 = .ok (.iadd, 1) := by decide +kernel
theorem dX6_readLearn_121 : decode cX6_readLearn 121 = .ok (.putfield 154, 3) := by decide +kernel
theorem dX6_readLearn_124 : decode cX6_readLearn 124 = .ok (.aload_n 0, 1) := by decide +kernel
theorem dX6_readLearn_125 : decode cX6_readLearn 125 = .ok (.getfield 9, 3) := by decide +kernel
theorem dX6_readLearn_128 : decode cX6_readLearn 128 = .ok (.invokevirtual 98, 3) := by decide +kernel
theorem dX6_readLearn_131 : decode cX6_readLearn 131 = .ok (.aload_n 0, 1) := by decide +kernel
theorem dX6_readLearn_132 : decode cX6_readLearn 132 = .ok (.invokevirtual 129, 3) := by decide +kernel
theorem dX6_readLearn_135 : decode cX6_readLearn 135 = .ok (.ireturn, 1) := by decide +kernel
theorem dX6_readNumbers_0 : decode cX6_readNumbers 0 = .ok (.aload_n 0, 1) := by decide +kernel
theorem dX6_readNumbers_1 : decode cX6_readNumbers 1 = .ok (.getfield 9, 3) := by decide +kernel
theorem dX6_readNumbers_4 : decode cX6_readNumbers 4 = .ok (.invokevirtual 98, 3) := by decide +kernel
theorem dX6_readNumbers_7 : decode cX6_readNumbers 7 = .ok (.aload_n 0, 1) := by decide +kernel
theorem dX6_readNumbers_8 : decode cX6_readNumbers 8 = .ok (.getfield 9, 3) := by decide +kernel
theorem dX6_readNumbers_11 : decode cX6_readNumbers 11 = .ok (.iload_n 1, 1) := by decide +kernel
theorem dX6_readNumbers_12 : decode cX6_readNumbers 12 = .ok (.iload_n 2, 1) := by decide +kernel
theorem dX6_readNumbers_13 : decode cX6_readNumbers 13 = .ok (.invokevirtual 112, 3) := by decide +kernel
theorem dX6_readNumbers_16 : decode cX6_readNumbers 16 = .ok (.ifCond .ne 5, 3) := by decide +kernel
theorem dX6_readNumbers_19 : decode cX6_readNumbers 19 = .ok (.iconst 0, 1) := by decide +kernel
theorem dX6_readNumbers_20 : decode cX6_readNumbers 20 = .ok (.ireturn, 1) := by decide +kernel
theorem dX6_readNumbers_21 : decode cX6_readNumbers 21 = .ok (.aload_n 0, 1) := by decide +kernel
theorem dX6_readNumbers_22 : decode cX6_readNumbers 22 = .ok (.aload_n 0, 1) := by decide +kernel
theorem dX6_readNumbers_23 : decode cX6_readNumbers 23 = .ok (.getfield 9, 3) := by decide +kernel
theorem dX6_readNumbers_26 : decode cX6_readNumbers 26 = .ok (.getfield 108, 3) := by decide +kernel
theorem dX6_readNumbers_29 : decode cX6_readNumbers 29 = .ok (.l2i, 1) := by decide +kernel
theorem dX6_readNumbers_30 : decode cX6_readNumbers 30 = .ok (.putfield 31, 3) := by decide +kernel
theorem dX6_readNumbers_33 : decode cX6_readNumbers 33 = .ok (.aload_n 0, 1) := by decide +kernel
theorem dX6_readNumbers_34 : decode cX6_readNumbers 34 = .ok (.getfield 9, 3) := by decide +kernel
theorem dX6_readNumbers_37 : decode cX6_readNumbers 37 = .ok (.invokevirtual 98, 3) := by decide +kernel
theorem dX6_readNumbers_40 : decode cX6_readNumbers 40 = .ok (.aload_n 0, 1) := by decide +kernel
theorem dX6_readNumbers_41 : decode cX6_readNumbers 41 = .ok (.getfield 9, 3) := by decide +kernel
theorem dX6_readNumbers_44 : decode cX6_readNumbers 44 = .ok (.iload_n 3, 1) := by decide +kernel
theorem dX6_readNumbers_45 : decode cX6_readNumbers 45 = .ok (.iload 4, 2) := by decide +kernel
theorem dX6_readNumbers_47 : decode cX6_readNumbers 47 = .ok (.invokevirtual 112, 3) := by decide +kernel
theorem dX6_readNumbers_50 : decode cX6_readNumbers 50 = .ok (.ifCond .ne 5, 3) := by decide +kernel
theorem dX6_readNumbers_53 : decode cX6_readNumbers 53 = .ok (.iconst 0, 1) := by decide +kernel
theorem dX6_readNumbers_54 : decode cX6_readNumbers 54 = .ok (.ireturn, 1) := by decide +kernel
theorem dX6_readNumbers_55 : decode cX6_readNumbers 55 = .ok (.aload_n 0, 1) := by decide +kernel
theorem dX6_readNumbers_56 : decode cX6_readNumbers 56 = .ok (.aload_n 0, 1) := by decide +kernel
theorem dX6_readNumbers_57 : decode cX6_readNumbers 57 = .ok (.getfield 9, 3) := by decide +kernel
theorem dX6_readNumbers_60 : decode cX6_readNumbers 60 = .ok (.getfield 108, 3) := by decide +kernel
theorem dX6_readNumbers_63 : decode cX6_readNumbers 63 = .ok (.l2i, 1) := by decide +kernel
theorem dX6_readNumbers_64 : decode cX6_readNumbers 64 = .ok (.putfield 35, 3) := by decide +kernel
theorem dX6_readNumbers_67 : decode cX6_readNumbers 67 = .ok (.aload_n 0, 1) := by decide +kernel
theorem dX6_readNumbers_68 : decode cX6_readNumbers 68 = .ok (.getfield 9, 3) := by decide +kernel
theorem dX6_readNumbers_71 : decode cX6_readNumbers 71 = .ok (.invokevirtual 98, 3) := by decide +kernel
theorem dX6_readNumbers_74 : decode cX6_readNumbers 74 = .ok (.iconst 1, 1) := by decide +kernel
theorem dX6_readNumbers_75 : decode cX6_readNumbers 75 = .ok (.ireturn, 1) := by decide +kernel
theorem dX6_closes_0 : decode cX6_closes 0 = .ok (.aload_n 0, 1) := by decide +kernel
theorem dX6_closes_1 : decode cX6_closes 1 = .ok (.getfield 9, 3) := by decide +kernel
theorem dX6_closes_4 : decode cX6_closes 4 = .ok (.bipush 59, 2) := by decide +kernel
theorem dX6_closes_6 : decode cX6_closes 6 = .ok (.invokevirtual 167, 3) := by decide +kernel
theorem dX6_closes_9 : decode cX6_closes 9 = .ok (.ifCond .ne 5, 3) := by decide +kernel
theorem dX6_closes_12 : decode cX6_closes 12 = .ok (.iconst 0, 1) := by decide +kernel
theorem dX6_closes_13 : decode cX6_closes 13 = .ok (.ireturn, 1) := by decide +kernel
theorem dX6_closes_14 : decode cX6_closes 14 = .ok (.aload_n 0, 1) := by decide +kernel
theorem dX6_closes_15 : decode cX6_closes 15 = .ok (.getfield 9, 3) := by decide +kernel
theorem dX6_closes_18 : decode cX6_closes 18 = .ok (.invokevirtual 98, 3) := by decide +kernel
theorem dX6_closes_21 : decode cX6_closes 21 = .ok (.iconst 1, 1) := by decide +kernel
theorem dX6_closes_22 : decode cX6_closes 22 = .ok (.ireturn, 1) := by decide +kernel
theorem dX6_findName_0 : decode cX6_findName 0 = .ok (.aload_n 0, 1) := by decide +kernel
theorem dX6_findName_1 : decode cX6_findName 1 = .ok (.getfield 9, 3) := by decide +kernel
theorem dX6_findName_4 : decode cX6_findName 4 = .ok (.invokevirtual 101, 3) := by decide +kernel
theorem dX6_findName_7 : decode cX6_findName 7 = .ok (.ifCond .eq 41, 3) := by decide +kernel
theorem dX6_findName_10 : decode cX6_findName 10 = .ok (.iconst 0, 1) := by decide +kernel
theorem dX6_findName_11 : decode cX6_findName 11 = .ok (.istore_n 1, 1) := by decide +kernel
theorem dX6_findName_12 : decode cX6_findName 12 = .ok (.iload_n 1, 1) := by decide +kernel
theorem dX6_findName_13 : decode cX6_findName 13 = .ok (.aload_n 0, 1) := by decide +kernel
theorem dX6_findName_14 : decode cX6_findName 14 = .ok (.getfield 23, 3) := by decide +kernel
theorem dX6_findName_17 : decode cX6_findName 17 = .ok (.getfield 95, 3) := by decide +kernel
theorem dX6_findName_20 : decode cX6_findName 20 = .ok (.if_icmp .ge 28, 3) := by decide +kernel
theorem dX6_findName_23 : decode cX6_findName 23 = .ok (.aload_n 0, 1) := by decide +kernel
theorem dX6_findName_24 : decode cX6_findName 24 = .ok (.getfield 15, 3) := by decide +kernel
theorem dX6_findName_27 : decode cX6_findName 27 = .ok (.iload_n 1, 1) := by decide +kernel
theorem dX6_findName_28 : decode cX6_findName 28 = .ok (.laload, 1) := by decide +kernel
theorem dX6_findName_29 : decode cX6_findName 29 = .ok (.aload_n 0, 1) := by decide +kernel
theorem dX6_findName_30 : decode cX6_findName 30 = .ok (.getfield 9, 3) := by decide +kernel
theorem dX6_findName_33 : decode cX6_findName 33 = .ok (.getfield 108, 3) := by decide +kernel
theorem dX6_findName_36 : decode cX6_findName 36 = .ok (.lcmp, 1) := by decide +kernel
theorem dX6_findName_37 : decode cX6_findName 37 = .ok (.ifCond .ne 5, 3) := by decide +kernel
theorem dX6_findName_40 : decode cX6_findName 40 = .ok (.iload_n 1, 1) := by decide +kernel
theorem dX6_findName_41 : decode cX6_findName 41 = .ok (.ireturn, 1) := by decide +kernel
theorem dX6_findName_42 : decode cX6_findName 42 = .ok (.iinc 1 1, 3) := by decide +kernel
theorem dX6_findName_45 : decode cX6_findName 45 = .ok (.goto (-33), 3) := by decide +kernel
theorem dX6_findName_48 : decode cX6_findName 48 = .ok (.iconst (-1), 1) := by decide +kernel
theorem dX6_findName_49 : decode cX6_findName 49 = .ok (.ireturn, 1) := by decide +kernel
theorem dX9_begin_0 : decode cX9_begin 0 = .ok (.aload_n 0, 1) := by decide +kernel
theorem dX9_begin_1 : decode cX9_begin 1 = .ok (.iconst 0, 1) := by decide +kernel
theorem dX9_begin_2 : decode cX9_begin 2 = .ok (.putfield 24, 3) := by decide +kernel
theorem dX9_begin_5 : decode cX9_begin 5 = .ok (.aload_n 0, 1) := by decide +kernel
theorem dX9_begin_6 : decode cX9_begin 6 = .ok (.invokevirtual 27, 3) := by decide +kernel
theorem dX9_begin_9 : decode cX9_begin 9 = .ok (.return_, 1) := by decide +kernel
theorem dX9_step_0 : decode cX9_step 0 = .ok (.aload_n 0, 1) := by decide +kernel
theorem dX9_step_1 : decode cX9_step 1 = .ok (.aload_n 0, 1) := by decide +kernel
theorem dX9_step_2 : decode cX9_step 2 = .ok (.getfield 24, 3) := by decide +kernel
theorem dX9_step_5 : decode cX9_step 5 = .ok (.putfield 17, 3) := by decide +kernel
theorem dX9_step_8 : decode cX9_step 8 = .ok (.aload_n 0, 1) := by decide +kernel
theorem dX9_step_9 : decode cX9_step 9 = .ok (.getfield 17, 3) := by decide +kernel
theorem dX9_step_12 : decode cX9_step 12 = .ok (.aload_n 0, 1) := by decide +kernel
theorem dX9_step_13 : decode cX9_step 13 = .ok (.getfield 7, 3) := by decide +kernel
theorem dX9_step_16 : decode cX9_step 16 = .ok (.getfield 30, 3) := by decide +kernel
theorem dX9_step_19 : decode cX9_step 19 = .ok (.if_icmp .ge 35, 3) := by decide +kernel
theorem dX9_step_22 : decode cX9_step 22 = .ok (.aload_n 0, 1) := by decide +kernel
theorem dX9_step_23 : decode cX9_step 23 = .ok (.getfield 7, 3) := by decide +kernel
theorem dX9_step_26 : decode cX9_step 26 = .ok (.getfield 35, 3) := by decide +kernel
theorem dX9_step_29 : decode cX9_step 29 = .ok (.aload_n 0, 1) := by decide +kernel
theorem dX9_step_30 : decode cX9_step 30 = .ok (.getfield 17, 3) := by decide +kernel
theorem dX9_step_33 : decode cX9_step 33 = .ok (.iaload, 1) := by decide +kernel
theorem dX9_step_34 : decode cX9_step 34 = .ok (.invokestatic 39, 3) := by decide +kernel
theorem dX9_step_37 : decode cX9_step 37 = .ok (.iconst 4, 1) := by decide +kernel
theorem dX9_step_38 : decode cX9_step 38 = .ok (.if_icmp .ne 16, 3) := by decide +kernel
theorem dX9_step_41 : decode cX9_step 41 = .ok (.aload_n 0, 1) := by decide +kernel
theorem dX9_step_42 : decode cX9_step 42 = .ok (.dup, 1) := by decide +kernel
theorem dX9_step_43 : decode cX9_step 43 = .ok (.getfield 17, 3) := by decide +kernel
theorem dX9_step_46 : decode cX9_step 46 = .ok (.iconst 1, 1) := by decide +kernel
theorem dX9_step_47 : decode cX9_step 47 = .ok (.iadd, 1) := by decide +kernel
theorem dX9_step_48 : decode cX9_step 48 = .ok (.putfield 17, 3) := by decide +kernel
theorem dX9_step_51 : decode cX9_step 51 = .ok (.goto (-43), 3) := by decide +kernel
theorem dX9_step_54 : decode cX9_step 54 = .ok (.aload_n 0, 1) := by decide +kernel
theorem dX9_step_55 : decode cX9_step 55 = .ok (.aload_n 0, 1) := by decide +kernel
theorem dX9_step_56 : decode cX9_step 56 = .ok (.getfield 17, 3) := by decide +kernel
theorem dX9_step_59 : decode cX9_step 59 = .ok (.putfield 24, 3) := by decide +kernel
theorem dX9_step_62 : decode cX9_step 62 = .ok (.aload_n 0, 1) := by decide +kernel
theorem dX9_step_63 : decode cX9_step 63 = .ok (.lconst 0, 1) := by decide +kernel
theorem dX9_step_64 : decode cX9_step 64 = .ok (.putfield 20, 3) := by decide +kernel
theorem dX9_step_67 : decode cX9_step 67 = .ok (.aload_n 0, 1) := by decide +kernel
theorem dX9_step_68 : decode cX9_step 68 = .ok (.aload_n 0, 1) := by decide +kernel
theorem dX9_step_69 : decode cX9_step 69 = .ok (.getfield 17, 3) := by decide +kernel
theorem dX9_step_72 : decode cX9_step 72 = .ok (.aload_n 0, 1) := by decide +kernel
theorem dX9_step_73 : decode cX9_step 73 = .ok (.getfield 7, 3) := by decide +kernel
theorem dX9_step_76 : decode cX9_step 76 = .ok (.getfield 30, 3) := by decide +kernel
theorem dX9_step_79 : decode cX9_step 79 = .ok (.if_icmp .ge 21, 3) := by decide +kernel
theorem dX9_step_82 : decode cX9_step 82 = .ok (.aload_n 0, 1) := by decide +kernel
theorem dX9_step_83 : decode cX9_step 83 = .ok (.getfield 7, 3) := by decide +kernel
theorem dX9_step_86 : decode cX9_step 86 = .ok (.getfield 35, 3) := by decide +kernel
theorem dX9_step_89 : decode cX9_step 89 = .ok (.aload_n 0, 1) := by decide +kernel
theorem dX9_step_90 : decode cX9_step 90 = .ok (.getfield 17, 3) := by decide +kernel
theorem dX9_step_93 : decode cX9_step 93 = .ok (.iaload, 1) := by decide +kernel
theorem dX9_step_94 : decode cX9_step 94 = .ok (.invokestatic 39, 3) := by decide +kernel
theorem dX9_step_97 : decode cX9_step 97 = .ok (.goto 4, 3) := by decide +kernel
theorem dX9_step_100 : decode cX9_step 100 = .ok (.iconst 0, 1) := by decide +kernel
theorem dX9_step_101 : decode cX9_step 101 = .ok (.putfield 13, 3) := by decide +kernel
theorem dX9_step_104 : decode cX9_step 104 = .ok (.aload_n 0, 1) := by decide +kernel
theorem dX9_step_105 : decode cX9_step 105 = .ok (.getfield 13, 3) := by decide +kernel
theorem dX9_step_108 : decode cX9_step 108 = .ok (.iconst 3, 1) := by decide +kernel
theorem dX9_step_109 : decode cX9_step 109 = .ok (.if_icmp .ne 12, 3) := by decide +kernel
theorem dX9_step_112 : decode cX9_step 112 = .ok (.aload_n 0, 1) := by decide +kernel
theorem dX9_step_113 : decode cX9_step 113 = .ok (.getfield 17, 3) := by decide +kernel
theorem dX9_step_116 : decode cX9_step 116 = .ok (.iconst 1, 1) := by decide +kernel
theorem dX9_step_117 : decode cX9_step 117 = .ok (.iadd, 1) := by decide +kernel
theorem dX9_step_118 : decode cX9_step 118 = .ok (.goto 10, 3) := by decide +kernel
theorem dX9_step_121 : decode cX9_step 121 = .ok (.aload_n 0, 1) := by decide +kernel
theorem dX9_step_122 : decode cX9_step 122 = .ok (.getfield 7, 3) := by decide +kernel
theorem dX9_step_125 : decode cX9_step 125 = .ok (.getfield 30, 3) := by decide +kernel
theorem dX9_step_128 : decode cX9_step 128 = .ok (.istore_n 1, 1) := by decide +kernel
theorem dX9_step_129 : decode cX9_step 129 = .ok (.aload_n 0, 1) := by decide +kernel
theorem dX9_step_130 : decode cX9_step 130 = .ok (.getfield 24, 3) := by decide +kernel
theorem dX9_step_133 : decode cX9_step 133 = .ok (.iload_n 1, 1) := by decide +kernel
theorem dX9_step_134 : decode cX9_step 134 = .ok (.if_icmp .ge 54, 3) := by decide +kernel
theorem dX9_step_137 : decode cX9_step 137 = .ok (.aload_n 0, 1) := by decide +kernel
theorem dX9_step_138 : decode cX9_step 138 = .ok (.getfield 7, 3) := by decide +kernel
theorem dX9_step_141 : decode cX9_step 141 = .ok (.getfield 35, 3) := by decide +kernel
theorem dX9_step_144 : decode cX9_step 144 = .ok (.aload_n 0, 1) := by decide +kernel
theorem dX9_step_145 : decode cX9_step 145 = .ok (.getfield 24, 3) := by decide +kernel
theorem dX9_step_148 : decode cX9_step 148 = .ok (.iaload, 1) := by decide +kernel
theorem dX9_step_149 : decode cX9_step 149 = .ok (.invokestatic 39, 3) := by decide +kernel
theorem dX9_step_152 : decode cX9_step 152 = .ok (.aload_n 0, 1) := by decide +kernel
theorem dX9_step_153 : decode cX9_step 153 = .ok (.getfield 13, 3) := by decide +kernel
theorem dX9_step_156 : decode cX9_step 156 = .ok (.if_icmp .ne 32, 3) := by decide +kernel
theorem dX9_step_159 : decode cX9_step 159 = .ok (.aload_n 0, 1) := by decide +kernel
theorem dX9_step_160 : decode cX9_step 160 = .ok (.aload_n 0, 1) := by decide +kernel
theorem dX9_step_161 : decode cX9_step 161 = .ok (.getfield 7, 3) := by decide +kernel
theorem dX9_step_164 : decode cX9_step 164 = .ok (.getfield 35, 3) := by decide +kernel
theorem dX9_step_167 : decode cX9_step 167 = .ok (.aload_n 0, 1) := by decide +kernel
theorem dX9_step_168 : decode cX9_step 168 = .ok (.getfield 24, 3) := by decide +kernel
theorem dX9_step_171 : decode cX9_step 171 = .ok (.iaload, 1) := by decide +kernel
theorem dX9_step_172 : decode cX9_step 172 = .ok (.invokevirtual 43, 3) := by decide +kernel
theorem dX9_step_175 : decode cX9_step 175 = .ok (.aload_n 0, 1) := by decide +kernel
theorem dX9_step_176 : decode cX9_step 176 = .ok (.dup, 1) := by decide +kernel
theorem dX9_step_177 : decode cX9_step 177 = .ok (.getfield 24, 3) := by decide +kernel
theorem dX9_step_180 : decode cX9_step 180 = .ok (.iconst 1, 1) := by decide +kernel
theorem dX9_step_181 : decode cX9_step 181 = .ok (.iadd, 1) := by decide +kernel
theorem dX9_step_182 : decode cX9_step 182 = .ok (.putfield 24, 3) := by decide +kernel
theorem dX9_step_185 : decode cX9_step 185 = .ok (.goto (-56), 3) := by decide +kernel
theorem dX9_step_188 : decode cX9_step 188 = .ok (.aload_n 0, 1) := by decide +kernel
theorem dX9_step_189 : decode cX9_step 189 = .ok (.getfield 13, 3) := by decide +kernel
theorem dX9_step_192 : decode cX9_step 192 = .ok (.iconst 1, 1) := by decide +kernel
theorem dX9_step_193 : decode cX9_step 193 = .ok (.if_icmp .ne 22, 3) := by decide +kernel
theorem dX9_step_196 : decode cX9_step 196 = .ok (.aload_n 0, 1) := by decide +kernel
theorem dX9_step_197 : decode cX9_step 197 = .ok (.getfield 24, 3) := by decide +kernel
theorem dX9_step_200 : decode cX9_step 200 = .ok (.aload_n 0, 1) := by decide +kernel
theorem dX9_step_201 : decode cX9_step 201 = .ok (.getfield 17, 3) := by decide +kernel
theorem dX9_step_204 : decode cX9_step 204 = .ok (.isub, 1) := by decide +kernel
theorem dX9_step_205 : decode cX9_step 205 = .ok (.bipush 8, 2) := by decide +kernel
theorem dX9_step_207 : decode cX9_step 207 = .ok (.if_icmp .le 8, 3) := by decide +kernel
theorem dX9_step_210 : decode cX9_step 210 = .ok (.aload_n 0, 1) := by decide +kernel
theorem dX9_step_211 : decode cX9_step 211 = .ok (.lconst 0, 1) := by decide +kernel
theorem dX9_step_212 : decode cX9_step 212 = .ok (.putfield 20, 3) := by decide +kernel
theorem dX9_step_215 : decode cX9_step 215 = .ok (.return_, 1) := by decide +kernel
theorem dX9_take_0 : decode cX9_take 0 = .ok (.aload_n 0, 1) := by decide +kernel
theorem dX9_take_1 : decode cX9_take 1 = .ok (.getfield 13, 3) := by decide +kernel
theorem dX9_take_4 : decode cX9_take 4 = .ok (.iconst 1, 1) := by decide +kernel
theorem dX9_take_5 : decode cX9_take 5 = .ok (.if_icmp .ne 20, 3) := by decide +kernel
theorem dX9_take_8 : decode cX9_take 8 = .ok (.aload_n 0, 1) := by decide +kernel
theorem dX9_take_9 : decode cX9_take 9 = .ok (.aload_n 0, 1) := by decide +kernel
theorem dX9_take_10 : decode cX9_take 10 = .ok (.getfield 20, 3) := by decide +kernel
theorem dX9_take_13 : decode cX9_take 13 = .ok (.bipush 8, 2) := by decide +kernel
theorem dX9_take_15 : decode cX9_take 15 = .ok (.lshl, 1) := by decide +kernel
theorem dX9_take_16 : decode cX9_take 16 = .ok (.iload_n 1, 1) := by decide +kernel
theorem dX9_take_17 : decode cX9_take 17 = .ok (.i2l, 1) := by decide +kernel
theorem dX9_take_18 : decode cX9_take 18 = .ok (.lor, 1) := by decide +kernel
theorem dX9_take_19 : decode cX9_take 19 = .ok (.putfield 20, 3) := by decide +kernel
theorem dX9_take_22 : decode cX9_take 22 = .ok (.goto 64, 3) := by decide +kernel
theorem dX9_take_25 : decode cX9_take 25 = .ok (.aload_n 0, 1) := by decide +kernel
theorem dX9_take_26 : decode cX9_take 26 = .ok (.getfield 13, 3) := by decide +kernel
theorem dX9_take_29 : decode cX9_take 29 = .ok (.iconst 2, 1) := by decide +kernel
theorem dX9_take_30 : decode cX9_take 30 = .ok (.if_icmp .ne 50, 3) := by decide +kernel
theorem dX9_take_33 : decode cX9_take 33 = .ok (.aload_n 0, 1) := by decide +kernel
theorem dX9_take_34 : decode cX9_take 34 = .ok (.aload_n 0, 1) := by decide +kernel
theorem dX9_take_35 : decode cX9_take 35 = .ok (.getfield 20, 3) := by decide +kernel
theorem dX9_take_38 : decode cX9_take 38 = .ok (.ldc2_w 47, 3) := by decide +kernel
theorem dX9_take_41 : decode cX9_take 41 = .ok (.lmul, 1) := by decide +kernel
theorem dX9_take_42 : decode cX9_take 42 = .ok (.iload_n 1, 1) := by decide +kernel
theorem dX9_take_43 : decode cX9_take 43 = .ok (.i2l, 1) := by decide +kernel
theorem dX9_take_44 : decode cX9_take 44 = .ok (.ladd, 1) := by decide +kernel
theorem dX9_take_45 : decode cX9_take 45 = .ok (.ldc2_w 49, 3) := by decide +kernel
theorem dX9_take_48 : decode cX9_take 48 = .ok (.lsub, 1) := by decide +kernel
theorem dX9_take_49 : decode cX9_take 49 = .ok (.putfield 20, 3) := by decide +kernel
theorem dX9_take_52 : decode cX9_take 52 = .ok (.aload_n 0, 1) := by decide +kernel
theorem dX9_take_53 : decode cX9_take 53 = .ok (.aload_n 0, 1) := by decide +kernel
theorem dX9_take_54 : decode cX9_take 54 = .ok (.getfield 20, 3) := by decide +kernel
theorem dX9_take_57 : decode cX9_take 57 = .ok (.ldc2_w 51, 3) := by decide +kernel
theorem dX9_take_60 : decode cX9_take 60 = .ok (.lcmp, 1) := by decide +kernel
theorem dX9_take_61 : decode cX9_take 61 = .ok (.ifCond .le 9, 3) := by decide +kernel
theorem dX9_take_64 : decode cX9_take 64 = .ok (.ldc2_w 51, 3) := by decide +kernel
theorem dX9_take_67 : decode cX9_take 67 = .ok (.goto 7, 3) := by decide +kernel
theorem dX9_take_70 : decode cX9_take 70 = .ok (.aload_n 0, 1) := by decide +kernel
theorem dX9_take_71 : decode cX9_take 71 = .ok (.getfield 20, 3) := by decide +kernel
theorem dX9_take_74 : decode cX9_take 74 = .ok (.putfield 20, 3) := by decide +kernel
theorem dX9_take_77 : decode cX9_take 77 = .ok (.goto 9, 3) := by decide +kernel
theorem dX9_take_80 : decode cX9_take 80 = .ok (.aload_n 0, 1) := by decide +kernel
theorem dX9_take_81 : decode cX9_take 81 = .ok (.iload_n 1, 1) := by decide +kernel
theorem dX9_take_82 : decode cX9_take 82 = .ok (.i2l, 1) := by decide +kernel
theorem dX9_take_83 : decode cX9_take 83 = .ok (.putfield 20, 3) := by decide +kernel
theorem dX9_take_86 : decode cX9_take 86 = .ok (.return_, 1) := by decide +kernel
theorem dX9_sortOf_0 : decode cX9_sortOf 0 = .ok (.iload_n 0, 1) := by decide +kernel
theorem dX9_sortOf_1 : decode cX9_sortOf 1 = .ok (.bipush 97, 2) := by decide +kernel
theorem dX9_sortOf_3 : decode cX9_sortOf 3 = .ok (.if_icmp .lt 11, 3) := by decide +kernel
theorem dX9_sortOf_6 : decode cX9_sortOf 6 = .ok (.iload_n 0, 1) := by decide +kernel
theorem dX9_sortOf_7 : decode cX9_sortOf 7 = .ok (.bipush 122, 2) := by decide +kernel
theorem dX9_sortOf_9 : decode cX9_sortOf 9 = .ok (.if_icmp .gt 5, 3) := by decide +kernel
theorem dX9_sortOf_12 : decode cX9_sortOf 12 = .ok (.iconst 1, 1) := by decide +kernel
theorem dX9_sortOf_13 : decode cX9_sortOf 13 = .ok (.ireturn, 1) := by decide +kernel
theorem dX9_sortOf_14 : decode cX9_sortOf 14 = .ok (.iload_n 0, 1) := by decide +kernel
theorem dX9_sortOf_15 : decode cX9_sortOf 15 = .ok (.bipush 48, 2) := by decide +kernel
theorem dX9_sortOf_17 : decode cX9_sortOf 17 = .ok (.if_icmp .lt 11, 3) := by decide +kernel
theorem dX9_sortOf_20 : decode cX9_sortOf 20 = .ok (.iload_n 0, 1) := by decide +kernel
theorem dX9_sortOf_21 : decode cX9_sortOf 21 = .ok (.bipush 57, 2) := by decide +kernel
theorem dX9_sortOf_23 : decode cX9_sortOf 23 = .ok (.if_icmp .gt 5, 3) := by decide +kernel
theorem dX9_sortOf_26 : decode cX9_sortOf 26 = .ok (.iconst 2, 1) := by decide +kernel
theorem dX9_sortOf_27 : decode cX9_sortOf 27 = .ok (.ireturn, 1) := by decide +kernel
theorem dX9_sortOf_28 : decode cX9_sortOf 28 = .ok (.iload_n 0, 1) := by decide +kernel
theorem dX9_sortOf_29 : decode cX9_sortOf 29 = .ok (.bipush 32, 2) := by decide +kernel
theorem dX9_sortOf_31 : decode cX9_sortOf 31 = .ok (.if_icmp .eq 9, 3) := by decide +kernel
theorem dX9_sortOf_34 : decode cX9_sortOf 34 = .ok (.iload_n 0, 1) := by decide +kernel
theorem dX9_sortOf_35 : decode cX9_sortOf 35 = .ok (.bipush 10, 2) := by decide +kernel
theorem dX9_sortOf_37 : decode cX9_sortOf 37 = .ok (.if_icmp .ne 7, 3) := by decide +kernel
theorem dX9_sortOf_40 : decode cX9_sortOf 40 = .ok (.iconst 4, 1) := by decide +kernel
theorem dX9_sortOf_41 : decode cX9_sortOf 41 = .ok (.goto 4, 3) := by decide +kernel
theorem dX9_sortOf_44 : decode cX9_sortOf 44 = .ok (.iconst 3, 1) := by decide +kernel
theorem dX9_sortOf_45 : decode cX9_sortOf 45 = .ok (.ireturn, 1) := by decide +kernel
theorem dX9_isWord_0 : decode cX9_isWord 0 = .ok (.aload_n 0, 1) := by decide +kernel
theorem dX9_isWord_1 : decode cX9_isWord 1 = .ok (.getfield 13, 3) := by decide +kernel
theorem dX9_isWord_4 : decode cX9_isWord 4 = .ok (.iconst 1, 1) := by decide +kernel
theorem dX9_isWord_5 : decode cX9_isWord 5 = .ok (.if_icmp .ne 16, 3) := by decide +kernel
theorem dX9_isWord_8 : decode cX9_isWord 8 = .ok (.aload_n 0, 1) := by decide +kernel
theorem dX9_isWord_9 : decode cX9_isWord 9 = .ok (.getfield 20, 3) := by decide +kernel
theorem dX9_isWord_12 : decode cX9_isWord 12 = .ok (.lload_n 1, 1) := by decide +kernel
theorem dX9_isWord_13 : decode cX9_isWord 13 = .ok (.lcmp, 1) := by decide +kernel
theorem dX9_isWord_14 : decode cX9_isWord 14 = .ok (.ifCond .ne 7, 3) := by decide +kernel
theorem dX9_isWord_17 : decode cX9_isWord 17 = .ok (.iconst 1, 1) := by decide +kernel
theorem dX9_isWord_18 : decode cX9_isWord 18 = .ok (.goto 4, 3) := by decide +kernel
theorem dX9_isWord_21 : decode cX9_isWord 21 = .ok (.iconst 0, 1) := by decide +kernel
theorem dX9_isWord_22 : decode cX9_isWord 22 = .ok (.ireturn, 1) := by decide +kernel
theorem dX9_isSign_0 : decode cX9_isSign 0 = .ok (.aload_n 0, 1) := by decide +kernel
theorem dX9_isSign_1 : decode cX9_isSign 1 = .ok (.getfield 13, 3) := by decide +kernel
theorem dX9_isSign_4 : decode cX9_isSign 4 = .ok (.iconst 3, 1) := by decide +kernel
theorem dX9_isSign_5 : decode cX9_isSign 5 = .ok (.if_icmp .ne 17, 3) := by decide +kernel
theorem dX9_isSign_8 : decode cX9_isSign 8 = .ok (.aload_n 0, 1) := by decide +kernel
theorem dX9_isSign_9 : decode cX9_isSign 9 = .ok (.getfield 20, 3) := by decide +kernel
theorem dX9_isSign_12 : decode cX9_isSign 12 = .ok (.iload_n 1, 1) := by decide +kernel
theorem dX9_isSign_13 : decode cX9_isSign 13 = .ok (.i2l, 1) := by decide +kernel
theorem dX9_isSign_14 : decode cX9_isSign 14 = .ok (.lcmp, 1) := by decide +kernel
theorem dX9_isSign_15 : decode cX9_isSign 15 = .ok (.ifCond .ne 7, 3) := by decide +kernel
theorem dX9_isSign_18 : decode cX9_isSign 18 = .ok (.iconst 1, 1) := by decide +kernel
theorem dX9_isSign_19 : decode cX9_isSign 19 = .ok (.goto 4, 3) := by decide +kernel
theorem dX9_isSign_22 : decode cX9_isSign 22 = .ok (.iconst 0, 1) := by decide +kernel
theorem dX9_isSign_23 : decode cX9_isSign 23 = .ok (.ireturn, 1) := by decide +kernel
theorem dX9_isNumber_0 : decode cX9_isNumber 0 = .ok (.aload_n 0, 1) := by decide +kernel
theorem dX9_isNumber_1 : decode cX9_isNumber 1 = .ok (.getfield 13, 3) := by decide +kernel
theorem dX9_isNumber_4 : decode cX9_isNumber 4 = .ok (.iconst 2, 1) := by decide +kernel
theorem dX9_isNumber_5 : decode cX9_isNumber 5 = .ok (.if_icmp .ne 27, 3) := by decide +kernel
theorem dX9_isNumber_8 : decode cX9_isNumber 8 = .ok (.aload_n 0, 1) := by decide +kernel
theorem dX9_isNumber_9 : decode cX9_isNumber 9 = .ok (.getfield 20, 3) := by decide +kernel
theorem dX9_isNumber_12 : decode cX9_isNumber 12 = .ok (.iload_n 1, 1) := by decide +kernel
theorem dX9_isNumber_13 : decode cX9_isNumber 13 = .ok (.i2l, 1) := by decide +kernel
theorem dX9_isNumber_14 : decode cX9_isNumber 14 = .ok (.lcmp, 1) := by decide +kernel
theorem dX9_isNumber_15 : decode cX9_isNumber 15 = .ok (.ifCond .lt 17, 3) := by decide +kernel
theorem dX9_isNumber_18 : decode cX9_isNumber 18 = .ok (.aload_n 0, 1) := by decide +kernel
theorem dX9_isNumber_19 : decode cX9_isNumber 19 = .ok (.getfield 20, 3) := by decide +kernel
theorem dX9_isNumber_22 : decode cX9_isNumber 22 = .ok (.iload_n 2, 1) := by decide +kernel
theorem dX9_isNumber_23 : decode cX9_isNumber 23 = .ok (.i2l, 1) := by decide +kernel
theorem dX9_isNumber_24 : decode cX9_isNumber 24 = .ok (.lcmp, 1) := by decide +kernel
theorem dX9_isNumber_25 : decode cX9_isNumber 25 = .ok (.ifCond .gt 7, 3) := by decide +kernel
theorem dX9_isNumber_28 : decode cX9_isNumber 28 = .ok (.iconst 1, 1) := by decide +kernel
theorem dX9_isNumber_29 : decode cX9_isNumber 29 = .ok (.goto 4, 3) := by decide +kernel
theorem dX9_isNumber_32 : decode cX9_isNumber 32 = .ok (.iconst 0, 1) := by decide +kernel
theorem dX9_isNumber_33 : decode cX9_isNumber 33 = .ok (.ireturn, 1) := by decide +kernel
theorem dX9_isName_0 : decode cX9_isName 0 = .ok (.aload_n 0, 1) := by decide +kernel
theorem dX9_isName_1 : decode cX9_isName 1 = .ok (.getfield 20, 3) := by decide +kernel
theorem dX9_isName_4 : decode cX9_isName 4 = .ok (.ldc2_w 53, 3) := by decide +kernel
theorem dX9_isName_7 : decode cX9_isName 7 = .ok (.lcmp, 1) := by decide +kernel
theorem dX9_isName_8 : decode cX9_isName 8 = .ok (.ifCond .eq 58, 3) := by decide +kernel
theorem dX9_isName_11 : decode cX9_isName 11 = .ok (.aload_n 0, 1) := by decide +kernel
theorem dX9_isName_12 : decode cX9_isName 12 = .ok (.getfield 20, 3) := by decide +kernel
theorem dX9_isName_15 : decode cX9_isName 15 = .ok (.ldc2_w 55, 3) := by decide +kernel
theorem dX9_isName_18 : decode cX9_isName 18 = .ok (.lcmp, 1) := by decide +kernel
theorem dX9_isName_19 : decode cX9_isName 19 = .ok (.ifCond .eq 47, 3) := by decide +kernel
theorem dX9_isName_22 : decode cX9_isName 22 = .ok (.aload_n 0, 1) := by decide +kernel
theorem dX9_isName_23 : decode cX9_isName 23 = .ok (.getfield 20, 3) := by decide +kernel
theorem dX9_isName_26 : decode cX9_isName 26 = .ok (.ldc2_w 57, 3) := by decide +kernel
theorem dX9_isName_29 : decode cX9_isName 29 = .ok (.lcmp, 1) := by decide +kernel
theorem dX9_isName_30 : decode cX9_isName 30 = .ok (.ifCond .eq 36, 3) := by decide +kernel
theorem dX9_isName_33 : decode cX9_isName 33 = .ok (.aload_n 0, 1) := by decide +kernel
theorem dX9_isName_34 : decode cX9_isName 34 = .ok (.getfield 20, 3) := by decide +kernel
theorem dX9_isName_37 : decode cX9_isName 37 = .ok (.ldc2_w 59, 3) := by decide +kernel
theorem dX9_isName_40 : decode cX9_isName 40 = .ok (.lcmp, 1) := by decide +kernel
theorem dX9_isName_41 : decode cX9_isName 41 = .ok (.ifCond .eq 25, 3) := by decide +kernel
theorem dX9_isName_44 : decode cX9_isName 44 = .ok (.aload_n 0, 1) := by decide +kernel
theorem dX9_isName_45 : decode cX9_isName 45 = .ok (.getfield 20, 3) := by decide +kernel
theorem dX9_isName_48 : decode cX9_isName 48 = .ok (.ldc2_w 61, 3) := by decide +kernel
theorem dX9_isName_51 : decode cX9_isName 51 = .ok (.lcmp, 1) := by decide +kernel
theorem dX9_isName_52 : decode cX9_isName 52 = .ok (.ifCond .eq 14, 3) := by decide +kernel
theorem dX9_isName_55 : decode cX9_isName 55 = .ok (.aload_n 0, 1) := by decide +kernel
theorem dX9_isName_56 : decode cX9_isName 56 = .ok (.getfield 20, 3) := by decide +kernel
theorem dX9_isName_59 : decode cX9_isName 59 = .ok (.ldc2_w 63, 3) := by decide +kernel
theorem dX9_isName_62 : decode cX9_isName 62 = .ok (.lcmp, 1) := by decide +kernel
theorem dX9_isName_63 : decode cX9_isName 63 = .ok (.ifCond .ne 7, 3) := by decide +kernel
theorem dX9_isName_66 : decode cX9_isName 66 = .ok (.iconst 1, 1) := by decide +kernel
theorem dX9_isName_67 : decode cX9_isName 67 = .ok (.goto 4, 3) := by decide +kernel
theorem dX9_isName_70 : decode cX9_isName 70 = .ok (.iconst 0, 1) := by decide +kernel
theorem dX9_isName_71 : decode cX9_isName 71 = .ok (.istore_n 1, 1) := by decide +kernel
theorem dX9_isName_72 : decode cX9_isName 72 = .ok (.aload_n 0, 1) := by decide +kernel
theorem dX9_isName_73 : decode cX9_isName 73 = .ok (.getfield 13, 3) := by decide +kernel
theorem dX9_isName_76 : decode cX9_isName 76 = .ok (.iconst 1, 1) := by decide +kernel
theorem dX9_isName_77 : decode cX9_isName 77 = .ok (.if_icmp .ne 20, 3) := by decide +kernel
theorem dX9_isName_80 : decode cX9_isName 80 = .ok (.aload_n 0, 1) := by decide +kernel
theorem dX9_isName_81 : decode cX9_isName 81 = .ok (.getfield 20, 3) := by decide +kernel
theorem dX9_isName_84 : decode cX9_isName 84 = .ok (.lconst 0, 1) := by decide +kernel
theorem dX9_isName_85 : decode cX9_isName 85 = .ok (.lcmp, 1) := by decide +kernel
theorem dX9_isName_86 : decode cX9_isName 86 = .ok (.ifCond .eq 11, 3) := by decide +kernel
theorem dX9_isName_89 : decode cX9_isName 89 = .ok (.iload_n 1, 1) := by decide +kernel
theorem dX9_isName_90 : decode cX9_isName 90 = .ok (.ifCond .ne 7, 3) := by decide +kernel
theorem dX9_isName_93 : decode cX9_isName 93 = .ok (.iconst 1, 1) := by decide +kernel
theorem dX9_isName_94 : decode cX9_isName 94 = .ok (.goto 4, 3) := by decide +kernel
theorem dX9_isName_97 : decode cX9_isName 97 = .ok (.iconst 0, 1) := by decide +kernel
theorem dX9_isName_98 : decode cX9_isName 98 = .ok (.ireturn, 1) := by decide +kernel
theorem dX5_clear_0 : decode cX5_clear 0 = .ok (.aload_n 0, 1) := by decide +kernel
theorem dX5_clear_1 : decode cX5_clear 1 = .ok (.iconst 0, 1) := by decide +kernel
theorem dX5_clear_2 : decode cX5_clear 2 = .ok (.putfield 27, 3) := by decide +kernel
theorem dX5_clear_5 : decode cX5_clear 5 = .ok (.aload_n 0, 1) := by decide +kernel
theorem dX5_clear_6 : decode cX5_clear 6 = .ok (.iconst 0, 1) := by decide +kernel
theorem dX5_clear_7 : decode cX5_clear 7 = .ok (.putfield 31, 3) := by decide +kernel
theorem dX5_clear_10 : decode cX5_clear 10 = .ok (.aload_n 0, 1) := by decide +kernel
theorem dX5_clear_11 : decode cX5_clear 11 = .ok (.iconst 0, 1) := by decide +kernel
theorem dX5_clear_12 : decode cX5_clear 12 = .ok (.putfield 34, 3) := by decide +kernel
theorem dX5_clear_15 : decode cX5_clear 15 = .ok (.aload_n 0, 1) := by decide +kernel
theorem dX5_clear_16 : decode cX5_clear 16 = .ok (.iconst 0, 1) := by decide +kernel
theorem dX5_clear_17 : decode cX5_clear 17 = .ok (.putfield 37, 3) := by decide +kernel
theorem dX5_clear_20 : decode cX5_clear 20 = .ok (.aload_n 0, 1) := by decide +kernel
theorem dX5_clear_21 : decode cX5_clear 21 = .ok (.iconst 0, 1) := by decide +kernel
theorem dX5_clear_22 : decode cX5_clear 22 = .ok (.putfield 40, 3) := by decide +kernel
theorem dX5_clear_25 : decode cX5_clear 25 = .ok (.aload_n 0, 1) := by decide +kernel
theorem dX5_clear_26 : decode cX5_clear 26 = .ok (.bipush 16, 2) := by decide +kernel
theorem dX5_clear_28 : decode cX5_clear 28 = .ok (.putfield 43, 3) := by decide +kernel
theorem dX5_clear_31 : decode cX5_clear 31 = .ok (.aload_n 0, 1) := by decide +kernel
theorem dX5_clear_32 : decode cX5_clear 32 = .ok (.bipush 99, 2) := by decide +kernel
theorem dX5_clear_34 : decode cX5_clear 34 = .ok (.putfield 46, 3) := by decide +kernel
theorem dX5_clear_37 : decode cX5_clear 37 = .ok (.aload_n 0, 1) := by decide +kernel
theorem dX5_clear_38 : decode cX5_clear 38 = .ok (.iconst 0, 1) := by decide +kernel
theorem dX5_clear_39 : decode cX5_clear 39 = .ok (.putfield 49, 3) := by decide +kernel
theorem dX5_clear_42 : decode cX5_clear 42 = .ok (.return_, 1) := by decide +kernel
theorem dX5_isTaken_0 : decode cX5_isTaken 0 = .ok (.iconst 0, 1) := by decide +kernel
theorem dX5_isTaken_1 : decode cX5_isTaken 1 = .ok (.istore_n 3, 1) := by decide +kernel
theorem dX5_isTaken_2 : decode cX5_isTaken 2 = .ok (.iload_n 3, 1) := by decide +kernel
theorem dX5_isTaken_3 : decode cX5_isTaken 3 = .ok (.aload_n 0, 1) := by decide +kernel
theorem dX5_isTaken_4 : decode cX5_isTaken 4 = .ok (.getfield 27, 3) := by decide +kernel
theorem dX5_isTaken_7 : decode cX5_isTaken 7 = .ok (.if_icmp .ge 31, 3) := by decide +kernel
theorem dX5_isTaken_10 : decode cX5_isTaken 10 = .ok (.aload_n 0, 1) := by decide +kernel
theorem dX5_isTaken_11 : decode cX5_isTaken 11 = .ok (.getfield 9, 3) := by decide +kernel
theorem dX5_isTaken_14 : decode cX5_isTaken 14 = .ok (.iload_n 3, 1) := by decide +kernel
theorem dX5_isTaken_15 : decode cX5_isTaken 15 = .ok (.iaload, 1) := by decide +kernel
theorem dX5_isTaken_16 : decode cX5_isTaken 16 = .ok (.iload_n 1, 1) := by decide +kernel
theorem dX5_isTaken_17 : decode cX5_isTaken 17 = .ok (.if_icmp .ne 15, 3) := by decide +kernel
theorem dX5_isTaken_20 : decode cX5_isTaken 20 = .ok (.aload_n 0, 1) := by decide +kernel
theorem dX5_isTaken_21 : decode cX5_isTaken 21 = .ok (.getfield 15, 3) := by decide +kernel
theorem dX5_isTaken_24 : decode cX5_isTaken 24 = .ok (.iload_n 3, 1) := by decide +kernel
theorem dX5_isTaken_25 : decode cX5_isTaken 25 = .ok (.iaload, 1) := by decide +kernel
theorem dX5_isTaken_26 : decode cX5_isTaken 26 = .ok (.iload_n 2, 1) := by decide +kernel
theorem dX5_isTaken_27 : decode cX5_isTaken 27 = .ok (.if_icmp .ne 5, 3) := by decide +kernel
theorem dX5_isTaken_30 : decode cX5_isTaken 30 = .ok (.iconst 1, 1) := by decide +kernel
theorem dX5_isTaken_31 : decode cX5_isTaken 31 = .ok (.ireturn, 1) := by decide +kernel
theorem dX5_isTaken_32 : decode cX5_isTaken 32 = .ok (.iinc 3 1, 3) := by decide +kernel
theorem dX5_isTaken_35 : decode cX5_isTaken 35 = .ok (.goto (-33), 3) := by decide +kernel
theorem dX5_isTaken_38 : decode cX5_isTaken 38 = .ok (.iconst 0, 1) := by decide +kernel
theorem dX5_isTaken_39 : decode cX5_isTaken 39 = .ok (.ireturn, 1) := by decide +kernel
theorem dX5_isWhole_0 : decode cX5_isWhole 0 = .ok (.aload_n 0, 1) := by decide +kernel
theorem dX5_isWhole_1 : decode cX5_isWhole 1 = .ok (.getfield 27, 3) := by decide +kernel
theorem dX5_isWhole_4 : decode cX5_isWhole 4 = .ok (.iconst 2, 1) := by decide +kernel
theorem dX5_isWhole_5 : decode cX5_isWhole 5 = .ok (.if_icmp .lt 21, 3) := by decide +kernel
theorem dX5_isWhole_8 : decode cX5_isWhole 8 = .ok (.aload_n 0, 1) := by decide +kernel
theorem dX5_isWhole_9 : decode cX5_isWhole 9 = .ok (.getfield 31, 3) := by decide +kernel
theorem dX5_isWhole_12 : decode cX5_isWhole 12 = .ok (.ifCond .le 14, 3) := by decide +kernel
theorem dX5_isWhole_15 : decode cX5_isWhole 15 = .ok (.aload_n 0, 1) := by decide +kernel
theorem dX5_isWhole_16 : decode cX5_isWhole 16 = .ok (.getfield 37, 3) := by decide +kernel
theorem dX5_isWhole_19 : decode cX5_isWhole 19 = .ok (.ifCond .le 7, 3) := by decide +kernel
theorem dX5_isWhole_22 : decode cX5_isWhole 22 = .ok (.iconst 1, 1) := by decide +kernel
theorem dX5_isWhole_23 : decode cX5_isWhole 23 = .ok (.goto 4, 3) := by decide +kernel
theorem dX5_isWhole_26 : decode cX5_isWhole 26 = .ok (.iconst 0, 1) := by decide +kernel
theorem dX5_isWhole_27 : decode cX5_isWhole 27 = .ok (.ireturn, 1) := by decide +kernel
theorem dX2_clear_0 : decode cX2_clear 0 = .ok (.aload_n 0, 1) := by decide +kernel
theorem dX2_clear_1 : decode cX2_clear 1 = .ok (.iconst 0, 1) := by decide +kernel
theorem dX2_clear_2 : decode cX2_clear 2 = .ok (.putfield 9, 3) := by decide +kernel
theorem dX2_clear_5 : decode cX2_clear 5 = .ok (.aload_n 0, 1) := by decide +kernel
theorem dX2_clear_6 : decode cX2_clear 6 = .ok (.iconst 0, 1) := by decide +kernel
theorem dX2_clear_7 : decode cX2_clear 7 = .ok (.putfield 28, 3) := by decide +kernel
theorem dX2_clear_10 : decode cX2_clear 10 = .ok (.return_, 1) := by decide +kernel
theorem dX2_beginLine_0 : decode cX2_beginLine 0 = .ok (.aload_n 0, 1) := by decide +kernel
theorem dX2_beginLine_1 : decode cX2_beginLine 1 = .ok (.getfield 9, 3) := by decide +kernel
theorem dX2_beginLine_4 : decode cX2_beginLine 4 = .ok (.bipush 10, 2) := by decide +kernel
theorem dX2_beginLine_6 : decode cX2_beginLine 6 = .ok (.if_icmp .ge 26, 3) := by decide +kernel
theorem dX2_beginLine_9 : decode cX2_beginLine 9 = .ok (.aload_n 0, 1) := by decide +kernel
theorem dX2_beginLine_10 : decode cX2_beginLine 10 = .ok (.getfield 15, 3) := by decide +kernel
theorem dX2_beginLine_13 : decode cX2_beginLine 13 = .ok (.aload_n 0, 1) := by decide +kernel
theorem dX2_beginLine_14 : decode cX2_beginLine 14 = .ok (.getfield 9, 3) := by decide +kernel
theorem dX2_beginLine_17 : decode cX2_beginLine 17 = .ok (.iload_n 1, 1) := by decide +kernel
theorem dX2_beginLine_18 : decode cX2_beginLine 18 = .ok (.iastore, 1) := by decide +kernel
theorem dX2_beginLine_19 : decode cX2_beginLine 19 = .ok (.aload_n 0, 1) := by decide +kernel
theorem dX2_beginLine_20 : decode cX2_beginLine 20 = .ok (.getfield 19, 3) := by decide +kernel
theorem dX2_beginLine_23 : decode cX2_beginLine 23 = .ok (.aload_n 0, 1) := by decide +kernel
theorem dX2_beginLine_24 : decode cX2_beginLine 24 = .ok (.getfield 9, 3) := by decide +kernel
theorem dX2_beginLine_27 : decode cX2_beginLine 27 = .ok (.aload_n 0, 1) := by decide +kernel
theorem dX2_beginLine_28 : decode cX2_beginLine 28 = .ok (.getfield 28, 3) := by decide +kernel
theorem dX2_beginLine_31 : decode cX2_beginLine 31 = .ok (.iastore, 1) := by decide +kernel
theorem dX2_beginLine_32 : decode cX2_beginLine 32 = .ok (.return_, 1) := by decide +kernel
theorem dX2_endLine_0 : decode cX2_endLine 0 = .ok (.aload_n 0, 1) := by decide +kernel
theorem dX2_endLine_1 : decode cX2_endLine 1 = .ok (.getfield 9, 3) := by decide +kernel
theorem dX2_endLine_4 : decode cX2_endLine 4 = .ok (.bipush 10, 2) := by decide +kernel
theorem dX2_endLine_6 : decode cX2_endLine 6 = .ok (.if_icmp .ge 26, 3) := by decide +kernel
theorem dX2_endLine_9 : decode cX2_endLine 9 = .ok (.aload_n 0, 1) := by decide +kernel
theorem dX2_endLine_10 : decode cX2_endLine 10 = .ok (.getfield 22, 3) := by decide +kernel
theorem dX2_endLine_13 : decode cX2_endLine 13 = .ok (.aload_n 0, 1) := by decide +kernel
theorem dX2_endLine_14 : decode cX2_endLine 14 = .ok (.getfield 9, 3) := by decide +kernel
theorem dX2_endLine_17 : decode cX2_endLine 17 = .ok (.aload_n 0, 1) := by decide +kernel
theorem dX2_endLine_18 : decode cX2_endLine 18 = .ok (.getfield 28, 3) := by decide +kernel
theorem dX2_endLine_21 : decode cX2_endLine 21 = .ok (.iastore, 1) := by decide +kernel
theorem dX2_endLine_22 : decode cX2_endLine 22 = .ok (.aload_n 0, 1) := by decide +kernel
theorem dX2_endLine_23 : decode cX2_endLine 23 = .ok (.dup, 1) := by decide +kernel
theorem dX2_endLine_24 : decode cX2_endLine 24 = .ok (.getfield 9, 3) := by decide +kernel
theorem dX2_endLine_27 : decode cX2_endLine 27 = .ok (.iconst 1, 1) := by decide +kernel
theorem dX2_endLine_28 : decode cX2_endLine 28 = .ok (.iadd, 1) := by decide +kernel
theorem dX2_endLine_29 : decode cX2_endLine 29 = .ok (.putfield 9, 3) := by decide +kernel
theorem dX2_endLine_32 : decode cX2_endLine 32 = .ok (.return_, 1) := by decide +kernel
theorem dX2_emit_0 : decode cX2_emit 0 = .ok (.aload_n 0, 1) := by decide +kernel
theorem dX2_emit_1 : decode cX2_emit 1 = .ok (.getfield 28, 3) := by decide +kernel
theorem dX2_emit_4 : decode cX2_emit 4 = .ok (.aload_n 0, 1) := by decide +kernel
theorem dX2_emit_5 : decode cX2_emit 5 = .ok (.getfield 25, 3) := by decide +kernel
theorem dX2_emit_8 : decode cX2_emit 8 = .ok (.arraylength, 1) := by decide +kernel
theorem dX2_emit_9 : decode cX2_emit 9 = .ok (.if_icmp .ge 23, 3) := by decide +kernel
theorem dX2_emit_12 : decode cX2_emit 12 = .ok (.aload_n 0, 1) := by decide +kernel
theorem dX2_emit_13 : decode cX2_emit 13 = .ok (.getfield 25, 3) := by decide +kernel
theorem dX2_emit_16 : decode cX2_emit 16 = .ok (.aload_n 0, 1) := by decide +kernel
theorem dX2_emit_17 : decode cX2_emit 17 = .ok (.getfield 28, 3) := by decide +kernel
theorem dX2_emit_20 : decode cX2_emit 20 = .ok (.iload_n 1, 1) := by decide +kernel
theorem dX2_emit_21 : decode cX2_emit 21 = .ok (.iastore, 1) := by decide +kernel
theorem dX2_emit_22 : decode cX2_emit 22 = .ok (.aload_n 0, 1) := by decide +kernel
theorem dX2_emit_23 : decode cX2_emit 23 = .ok (.dup, 1) := by decide +kernel
theorem dX2_emit_24 : decode cX2_emit 24 = .ok (.getfield 28, 3) := by decide +kernel
theorem dX2_emit_27 : decode cX2_emit 27 = .ok (.iconst 1, 1) := by decide +kernel
theorem dX2_emit_28 : decode cX2_emit 28 = .ok (.iadd, 1) := by decide +kernel
theorem dX2_emit_29 : decode cX2_emit 29 = .ok (.putfield 28, 3) := by decide +kernel
theorem dX2_emit_32 : decode cX2_emit 32 = .ok (.return_, 1) := by decide +kernel
theorem dX8_add_0 : decode cX8_add 0 = .ok (.bipush 24, 2) := by decide +kernel
theorem dX8_add_2 : decode cX8_add 2 = .ok (.istore_n 2, 1) := by decide +kernel
theorem dX8_add_3 : decode cX8_add 3 = .ok (.iload_n 2, 1) := by decide +kernel
theorem dX8_add_4 : decode cX8_add 4 = .ok (.ifCond .lt 47, 3) := by decide +kernel
theorem dX8_add_7 : decode cX8_add 7 = .ok (.aload_n 0, 1) := by decide +kernel
theorem dX8_add_8 : decode cX8_add 8 = .ok (.getfield 15, 3) := by decide +kernel
theorem dX8_add_11 : decode cX8_add 11 = .ok (.aload_n 0, 1) := by decide +kernel
theorem dX8_add_12 : decode cX8_add 12 = .ok (.getfield 9, 3) := by decide +kernel
theorem dX8_add_15 : decode cX8_add 15 = .ok (.arraylength, 1) := by decide +kernel
theorem dX8_add_16 : decode cX8_add 16 = .ok (.if_icmp .ge 29, 3) := by decide +kernel
theorem dX8_add_19 : decode cX8_add 19 = .ok (.aload_n 0, 1) := by decide +kernel
theorem dX8_add_20 : decode cX8_add 20 = .ok (.getfield 9, 3) := by decide +kernel
theorem dX8_add_23 : decode cX8_add 23 = .ok (.aload_n 0, 1) := by decide +kernel
theorem dX8_add_24 : decode cX8_add 24 = .ok (.getfield 15, 3) := by decide +kernel
theorem dX8_add_27 : decode cX8_add 27 = .ok (.iload_n 1, 1) := by decide +kernel
theorem dX8_add_28 : decode cX8_add 28 = .ok (.iload_n 2, 1) := by decide +kernel
theorem dX8_add_29 : decode cX8_add 29 = .ok (.iushr, 1) := by decide +kernel
theorem dX8_add_30 : decode cX8_add 30 = .ok (.sipush 255, 3) := by decide +kernel
theorem dX8_add_33 : decode cX8_add 33 = .ok (.iand, 1) := by decide +kernel
theorem dX8_add_34 : decode cX8_add 34 = .ok (.iastore, 1) := by decide +kernel
theorem dX8_add_35 : decode cX8_add 35 = .ok (.aload_n 0, 1) := by decide +kernel
theorem dX8_add_36 : decode cX8_add 36 = .ok (.dup, 1) := by decide +kernel
theorem dX8_add_37 : decode cX8_add 37 = .ok (.getfield 15, 3) := by decide +kernel
theorem dX8_add_40 : decode cX8_add 40 = .ok (.iconst 1, 1) := by decide +kernel
theorem dX8_add_41 : decode cX8_add 41 = .ok (.iadd, 1) := by decide +kernel
theorem dX8_add_42 : decode cX8_add 42 = .ok (.putfield 15, 3) := by decide +kernel
theorem dX8_add_45 : decode cX8_add 45 = .ok (.iinc 2 (-8), 3) := by decide +kernel
theorem dX8_add_48 : decode cX8_add 48 = .ok (.goto (-45), 3) := by decide +kernel
theorem dX8_add_51 : decode cX8_add 51 = .ok (.return_, 1) := by decide +kernel
theorem dX11_feed_0 : decode cX11_feed 0 = .ok (.aload_n 0, 1) := by decide +kernel
theorem dX11_feed_1 : decode cX11_feed 1 = .ok (.getfield 10, 3) := by decide +kernel
theorem dX11_feed_4 : decode cX11_feed 4 = .ok (.getfield 111, 3) := by decide +kernel
theorem dX11_feed_7 : decode cX11_feed 7 = .ok (.bipush 20, 2) := by decide +kernel
theorem dX11_feed_9 : decode cX11_feed 9 = .ok (.iadd, 1) := by decide +kernel
theorem dX11_feed_10 : decode cX11_feed 10 = .ok (.sipush 500, 3) := by decide +kernel
theorem dX11_feed_13 : decode cX11_feed 13 = .ok (.if_icmp .le 5, 3) := by decide +kernel
theorem dX11_feed_16 : decode cX11_feed 16 = .ok (.iconst (-1), 1) := by decide +kernel
theorem dX11_feed_17 : decode cX11_feed 17 = .ok (.ireturn, 1) := by decide +kernel
theorem dX11_feed_18 : decode cX11_feed 18 = .ok (.aload_n 0, 1) := by decide +kernel
theorem dX11_feed_19 : decode cX11_feed 19 = .ok (.getfield 10, 3) := by decide +kernel
theorem dX11_feed_22 : decode cX11_feed 22 = .ok (.iload_n 1, 1) := by decide +kernel
theorem dX11_feed_23 : decode cX11_feed 23 = .ok (.invokevirtual 114, 3) := by decide +kernel
theorem dX11_feed_26 : decode cX11_feed 26 = .ok (.aload_n 0, 1) := by decide +kernel
theorem dX11_feed_27 : decode cX11_feed 27 = .ok (.getfield 10, 3) := by decide +kernel
theorem dX11_feed_30 : decode cX11_feed 30 = .ok (.iload_n 2, 1) := by decide +kernel
theorem dX11_feed_31 : decode cX11_feed 31 = .ok (.invokevirtual 114, 3) := by decide +kernel
theorem dX11_feed_34 : decode cX11_feed 34 = .ok (.aload_n 0, 1) := by decide +kernel
theorem dX11_feed_35 : decode cX11_feed 35 = .ok (.getfield 10, 3) := by decide +kernel
theorem dX11_feed_38 : decode cX11_feed 38 = .ok (.iload_n 3, 1) := by decide +kernel
theorem dX11_feed_39 : decode cX11_feed 39 = .ok (.invokevirtual 114, 3) := by decide +kernel
theorem dX11_feed_42 : decode cX11_feed 42 = .ok (.aload_n 0, 1) := by decide +kernel
theorem dX11_feed_43 : decode cX11_feed 43 = .ok (.getfield 10, 3) := by decide +kernel
theorem dX11_feed_46 : decode cX11_feed 46 = .ok (.iload 4, 2) := by decide +kernel
theorem dX11_feed_48 : decode cX11_feed 48 = .ok (.invokevirtual 114, 3) := by decide +kernel
theorem dX11_feed_51 : decode cX11_feed 51 = .ok (.aload_n 0, 1) := by decide +kernel
theorem dX11_feed_52 : decode cX11_feed 52 = .ok (.getfield 10, 3) := by decide +kernel
theorem dX11_feed_55 : decode cX11_feed 55 = .ok (.iload 5, 2) := by decide +kernel
theorem dX11_feed_57 : decode cX11_feed 57 = .ok (.invokevirtual 114, 3) := by decide +kernel
theorem dX11_feed_60 : decode cX11_feed 60 = .ok (.aload_n 0, 1) := by decide +kernel
theorem dX11_feed_61 : decode cX11_feed 61 = .ok (.getfield 10, 3) := by decide +kernel
theorem dX11_feed_64 : decode cX11_feed 64 = .ok (.getfield 111, 3) := by decide +kernel
theorem dX11_feed_67 : decode cX11_feed 67 = .ok (.ireturn, 1) := by decide +kernel
theorem dX11_end_0 : decode cX11_end 0 = .ok (.iload_n 1, 1) := by decide +kernel
theorem dX11_end_1 : decode cX11_end 1 = .ok (.ifCond .lt 14, 3) := by decide +kernel
theorem dX11_end_4 : decode cX11_end 4 = .ok (.iload_n 1, 1) := by decide +kernel
theorem dX11_end_5 : decode cX11_end 5 = .ok (.aload_n 0, 1) := by decide +kernel
theorem dX11_end_6 : decode cX11_end 6 = .ok (.getfield 10, 3) := by decide +kernel
theorem dX11_end_9 : decode cX11_end 9 = .ok (.getfield 111, 3) := by decide +kernel
theorem dX11_end_12 : decode cX11_end 12 = .ok (.if_icmp .le 5, 3) := by decide +kernel
theorem dX11_end_15 : decode cX11_end 15 = .ok (.iconst 0, 1) := by decide +kernel
theorem dX11_end_16 : decode cX11_end 16 = .ok (.ireturn, 1) := by decide +kernel
theorem dX11_end_17 : decode cX11_end 17 = .ok (.aload_n 0, 1) := by decide +kernel
theorem dX11_end_18 : decode cX11_end 18 = .ok (.getfield 10, 3) := by decide +kernel
theorem dX11_end_21 : decode cX11_end 21 = .ok (.iload_n 1, 1) := by decide +kernel
theorem dX11_end_22 : decode cX11_end 22 = .ok (.putfield 111, 3) := by decide +kernel
theorem dX11_end_25 : decode cX11_end 25 = .ok (.iconst 1, 1) := by decide +kernel
theorem dX11_end_26 : decode cX11_end 26 = .ok (.ireturn, 1) := by decide +kernel
theorem dX11_fault_0 : decode cX11_fault 0 = .ok (.iload_n 1, 1) := by decide +kernel
theorem dX11_fault_1 : decode cX11_fault 1 = .ok (.ifCond .ne 15, 3) := by decide +kernel
theorem dX11_fault_4 : decode cX11_fault 4 = .ok (.aload_n 0, 1) := by decide +kernel
theorem dX11_fault_5 : decode cX11_fault 5 = .ok (.getfield 57, 3) := by decide +kernel
theorem dX11_fault_8 : decode cX11_fault 8 = .ok (.aload_n 0, 1) := by decide +kernel
theorem dX11_fault_9 : decode cX11_fault 9 = .ok (.getfield 39, 3) := by decide +kernel
theorem dX11_fault_12 : decode cX11_fault 12 = .ok (.invokevirtual 118, 3) := by decide +kernel
theorem dX11_fault_15 : decode cX11_fault 15 = .ok (.ireturn, 1) := by decide +kernel
theorem dX11_fault_16 : decode cX11_fault 16 = .ok (.iload_n 1, 1) := by decide +kernel
theorem dX11_fault_17 : decode cX11_fault 17 = .ok (.iconst 1, 1) := by decide +kernel
theorem dX11_fault_18 : decode cX11_fault 18 = .ok (.if_icmp .ne 15, 3) := by decide +kernel
theorem dX11_fault_21 : decode cX11_fault 21 = .ok (.aload_n 0, 1) := by decide +kernel
theorem dX11_fault_22 : decode cX11_fault 22 = .ok (.getfield 66, 3) := by decide +kernel
theorem dX11_fault_25 : decode cX11_fault 25 = .ok (.aload_n 0, 1) := by decide +kernel
theorem dX11_fault_26 : decode cX11_fault 26 = .ok (.getfield 49, 3) := by decide +kernel
theorem dX11_fault_29 : decode cX11_fault 29 = .ok (.invokevirtual 122, 3) := by decide +kernel
theorem dX11_fault_32 : decode cX11_fault 32 = .ok (.ireturn, 1) := by decide +kernel
theorem dX11_fault_33 : decode cX11_fault 33 = .ok (.ldc 125, 2) := by decide +kernel
theorem dX11_fault_35 : decode cX11_fault 35 = .ok (.ireturn, 1) := by decide +kernel
theorem dX11_scene_0 : decode cX11_scene 0 = .ok (.aload_n 0, 1) := by decide +kernel
theorem dX11_scene_1 : decode cX11_scene 1 = .ok (.getfield 57, 3) := by decide +kernel
theorem dX11_scene_4 : decode cX11_scene 4 = .ok (.aload_n 0, 1) := by decide +kernel
theorem dX11_scene_5 : decode cX11_scene 5 = .ok (.getfield 39, 3) := by decide +kernel
theorem dX11_scene_8 : decode cX11_scene 8 = .ok (.invokevirtual 118, 3) := by decide +kernel
theorem dX11_scene_11 : decode cX11_scene 11 = .ok (.iconst (-1), 1) := by decide +kernel
theorem dX11_scene_12 : decode cX11_scene 12 = .ok (.if_icmp .eq 5, 3) := by decide +kernel
theorem dX11_scene_15 : decode cX11_scene 15 = .ok (.iconst (-1), 1) := by decide +kernel
theorem dX11_scene_16 : decode cX11_scene 16 = .ok (.ireturn, 1) := by decide +kernel
theorem dX11_scene_17 : decode cX11_scene 17 = .ok (.aload_n 0, 1) := by decide +kernel
theorem dX11_scene_18 : decode cX11_scene 18 = .ok (.getfield 35, 3) := by decide +kernel
theorem dX11_scene_21 : decode cX11_scene 21 = .ok (.astore_n 1, 1) := by decide +kernel
theorem dX11_scene_22 : decode cX11_scene 22 = .ok (.aload_n 0, 1) := by decide +kernel
theorem dX11_scene_23 : decode cX11_scene 23 = .ok (.aload_n 0, 1) := by decide +kernel
theorem dX11_scene_24 : decode cX11_scene 24 = .ok (.getfield 39, 3) := by decide +kernel
theorem dX11_scene_27 : decode cX11_scene 27 = .ok (.putfield 35, 3) := by decide +kernel
theorem dX11_scene_30 : decode cX11_scene 30 = .ok (.aload_n 0, 1) := by decide +kernel
theorem dX11_scene_31 : decode cX11_scene 31 = .ok (.aload_n 1, 1) := by decide +kernel
theorem dX11_scene_32 : decode cX11_scene 32 = .ok (.putfield 39, 3) := by decide +kernel
theorem dX11_scene_35 : decode cX11_scene 35 = .ok (.aload_n 0, 1) := by decide +kernel
theorem dX11_scene_36 : decode cX11_scene 36 = .ok (.getfield 10, 3) := by decide +kernel
theorem dX11_scene_39 : decode cX11_scene 39 = .ok (.iconst 0, 1) := by decide +kernel
theorem dX11_scene_40 : decode cX11_scene 40 = .ok (.putfield 111, 3) := by decide +kernel
theorem dX11_scene_43 : decode cX11_scene 43 = .ok (.aload_n 0, 1) := by decide +kernel
theorem dX11_scene_44 : decode cX11_scene 44 = .ok (.getfield 24, 3) := by decide +kernel
theorem dX11_scene_47 : decode cX11_scene 47 = .ok (.aload_n 0, 1) := by decide +kernel
theorem dX11_scene_48 : decode cX11_scene 48 = .ok (.getfield 35, 3) := by decide +kernel
theorem dX11_scene_51 : decode cX11_scene 51 = .ok (.getfield 126, 3) := by decide +kernel
theorem dX11_scene_54 : decode cX11_scene 54 = .ok (.invokevirtual 129, 3) := by decide +kernel
theorem dX11_scene_57 : decode cX11_scene 57 = .ok (.iconst 0, 1) := by decide +kernel
theorem dX11_scene_58 : decode cX11_scene 58 = .ok (.istore_n 2, 1) := by decide +kernel
theorem dX11_scene_59 : decode cX11_scene 59 = .ok (.iload_n 2, 1) := by decide +kernel
theorem dX11_scene_60 : decode cX11_scene 60 = .ok (.iconst 3, 1) := by decide +kernel
theorem dX11_scene_61 : decode cX11_scene 61 = .ok (.if_icmp .ge 19, 3) := by decide +kernel
theorem dX11_scene_64 : decode cX11_scene 64 = .ok (.aload_n 0, 1) := by decide +kernel
theorem dX11_scene_65 : decode cX11_scene 65 = .ok (.getfield 28, 3) := by decide +kernel
theorem dX11_scene_68 : decode cX11_scene 68 = .ok (.iload_n 2, 1) := by decide +kernel
theorem dX11_scene_69 : decode cX11_scene 69 = .ok (.aaload, 1) := by decide +kernel
theorem dX11_scene_70 : decode cX11_scene 70 = .ok (.iconst 0, 1) := by decide +kernel
theorem dX11_scene_71 : decode cX11_scene 71 = .ok (.putfield 132, 3) := by decide +kernel
theorem dX11_scene_74 : decode cX11_scene 74 = .ok (.iinc 2 1, 3) := by decide +kernel
theorem dX11_scene_77 : decode cX11_scene 77 = .ok (.goto (-18), 3) := by decide +kernel
theorem dX11_scene_80 : decode cX11_scene 80 = .ok (.aload_n 0, 1) := by decide +kernel
theorem dX11_scene_81 : decode cX11_scene 81 = .ok (.getfield 35, 3) := by decide +kernel
theorem dX11_scene_84 : decode cX11_scene 84 = .ok (.getfield 136, 3) := by decide +kernel
theorem dX11_scene_87 : decode cX11_scene 87 = .ok (.ireturn, 1) := by decide +kernel
theorem dX11_rules_0 : decode cX11_rules 0 = .ok (.aload_n 0, 1) := by decide +kernel
theorem dX11_rules_1 : decode cX11_rules 1 = .ok (.getfield 66, 3) := by decide +kernel
theorem dX11_rules_4 : decode cX11_rules 4 = .ok (.aload_n 0, 1) := by decide +kernel
theorem dX11_rules_5 : decode cX11_rules 5 = .ok (.getfield 49, 3) := by decide +kernel
theorem dX11_rules_8 : decode cX11_rules 8 = .ok (.invokevirtual 122, 3) := by decide +kernel
theorem dX11_rules_11 : decode cX11_rules 11 = .ok (.iconst (-1), 1) := by decide +kernel
theorem dX11_rules_12 : decode cX11_rules 12 = .ok (.if_icmp .eq 5, 3) := by decide +kernel
theorem dX11_rules_15 : decode cX11_rules 15 = .ok (.iconst (-1), 1) := by decide +kernel
theorem dX11_rules_16 : decode cX11_rules 16 = .ok (.ireturn, 1) := by decide +kernel
theorem dX11_rules_17 : decode cX11_rules 17 = .ok (.aload_n 0, 1) := by decide +kernel
theorem dX11_rules_18 : decode cX11_rules 18 = .ok (.getfield 45, 3) := by decide +kernel
theorem dX11_rules_21 : decode cX11_rules 21 = .ok (.astore_n 1, 1) := by decide +kernel
theorem dX11_rules_22 : decode cX11_rules 22 = .ok (.aload_n 0, 1) := by decide +kernel
theorem dX11_rules_23 : decode cX11_rules 23 = .ok (.aload_n 0, 1) := by decide +kernel
theorem dX11_rules_24 : decode cX11_rules 24 = .ok (.getfield 49, 3) := by decide +kernel
theorem dX11_rules_27 : decode cX11_rules 27 = .ok (.putfield 45, 3) := by decide +kernel
theorem dX11_rules_30 : decode cX11_rules 30 = .ok (.aload_n 0, 1) := by decide +kernel
theorem dX11_rules_31 : decode cX11_rules 31 = .ok (.aload_n 1, 1) := by decide +kernel
theorem dX11_rules_32 : decode cX11_rules 32 = .ok (.putfield 49, 3) := by decide +kernel
theorem dX11_rules_35 : decode cX11_rules 35 = .ok (.aload_n 0, 1) := by decide +kernel
theorem dX11_rules_36 : decode cX11_rules 36 = .ok (.getfield 10, 3) := by decide +kernel
theorem dX11_rules_39 : decode cX11_rules 39 = .ok (.iconst 0, 1) := by decide +kernel
theorem dX11_rules_40 : decode cX11_rules 40 = .ok (.putfield 111, 3) := by decide +kernel
theorem dX11_rules_43 : decode cX11_rules 43 = .ok (.aload_n 0, 1) := by decide +kernel
theorem dX11_rules_44 : decode cX11_rules 44 = .ok (.getfield 45, 3) := by decide +kernel
theorem dX11_rules_47 : decode cX11_rules 47 = .ok (.getfield 139, 3) := by decide +kernel
theorem dX11_rules_50 : decode cX11_rules 50 = .ok (.ireturn, 1) := by decide +kernel
