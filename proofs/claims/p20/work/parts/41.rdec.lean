theorem dX12_in_0 : decode cX12_in 0 = .ok (.iload_n 0, 1) := by decide +kernel
theorem dX12_in_1 : decode cX12_in 1 = .ok (.iload_n 1, 1) := by decide +kernel
theorem dX12_in_2 : decode cX12_in 2 = .ok (.if_icmp .lt 12, 3) := by decide +kernel
theorem dX12_in_5 : decode cX12_in 5 = .ok (.iload_n 0, 1) := by decide +kernel
theorem dX12_in_6 : decode cX12_in 6 = .ok (.iload_n 2, 1) := by decide +kernel
theorem dX12_in_7 : decode cX12_in 7 = .ok (.if_icmp .gt 7, 3) := by decide +kernel
theorem dX12_in_10 : decode cX12_in 10 = .ok (.iconst 1, 1) := by decide +kernel
theorem dX12_in_11 : decode cX12_in 11 = .ok (.goto 4, 3) := by decide +kernel
theorem dX12_in_14 : decode cX12_in 14 = .ok (.iconst 0, 1) := by decide +kernel
theorem dX12_in_15 : decode cX12_in 15 = .ok (.ireturn, 1) := by decide +kernel
theorem dX12_far_0 : decode cX12_far 0 = .ok (.iload_n 0, 1) := by decide +kernel
theorem dX12_far_1 : decode cX12_far 1 = .ok (.ifCond .ge 8, 3) := by decide +kernel
theorem dX12_far_4 : decode cX12_far 4 = .ok (.iload_n 0, 1) := by decide +kernel
theorem dX12_far_5 : decode cX12_far 5 = .ok (.ineg, 1) := by decide +kernel
theorem dX12_far_6 : decode cX12_far 6 = .ok (.goto 4, 3) := by decide +kernel
theorem dX12_far_9 : decode cX12_far 9 = .ok (.iload_n 0, 1) := by decide +kernel
theorem dX12_far_10 : decode cX12_far 10 = .ok (.ireturn, 1) := by decide +kernel
theorem dX12_feed_0 : decode cX12_feed 0 = .ok (.aload_n 0, 1) := by decide +kernel
theorem dX12_feed_1 : decode cX12_feed 1 = .ok (.getfield 94, 3) := by decide +kernel
theorem dX12_feed_4 : decode cX12_feed 4 = .ok (.bipush 20, 2) := by decide +kernel
theorem dX12_feed_6 : decode cX12_feed 6 = .ok (.iadd, 1) := by decide +kernel
theorem dX12_feed_7 : decode cX12_feed 7 = .ok (.sipush 500, 3) := by decide +kernel
theorem dX12_feed_10 : decode cX12_feed 10 = .ok (.if_icmp .le 5, 3) := by decide +kernel
theorem dX12_feed_13 : decode cX12_feed 13 = .ok (.iconst (-1), 1) := by decide +kernel
theorem dX12_feed_14 : decode cX12_feed 14 = .ok (.ireturn, 1) := by decide +kernel
theorem dX12_feed_15 : decode cX12_feed 15 = .ok (.iconst 0, 1) := by decide +kernel
theorem dX12_feed_16 : decode cX12_feed 16 = .ok (.istore 6, 2) := by decide +kernel
theorem dX12_feed_18 : decode cX12_feed 18 = .ok (.iload 6, 2) := by decide +kernel
theorem dX12_feed_20 : decode cX12_feed 20 = .ok (.bipush 20, 2) := by decide +kernel
theorem dX12_feed_22 : decode cX12_feed 22 = .ok (.if_icmp .ge 90, 3) := by decide +kernel
theorem dX12_feed_25 : decode cX12_feed 25 = .ok (.iload 6, 2) := by decide +kernel
theorem dX12_feed_27 : decode cX12_feed 27 = .ok (.iconst 4, 1) := by decide +kernel
theorem dX12_feed_28 : decode cX12_feed 28 = .ok (.if_icmp .ge 7, 3) := by decide +kernel
theorem dX12_feed_31 : decode cX12_feed 31 = .ok (.iload_n 1, 1) := by decide +kernel
theorem dX12_feed_32 : decode cX12_feed 32 = .ok (.goto 39, 3) := by decide +kernel
theorem dX12_feed_35 : decode cX12_feed 35 = .ok (.iload 6, 2) := by decide +kernel
theorem dX12_feed_37 : decode cX12_feed 37 = .ok (.bipush 8, 2) := by decide +kernel
theorem dX12_feed_39 : decode cX12_feed 39 = .ok (.if_icmp .ge 7, 3) := by decide +kernel
theorem dX12_feed_42 : decode cX12_feed 42 = .ok (.iload_n 2, 1) := by decide +kernel
theorem dX12_feed_43 : decode cX12_feed 43 = .ok (.goto 28, 3) := by decide +kernel
theorem dX12_feed_46 : decode cX12_feed 46 = .ok (.iload 6, 2) := by decide +kernel
theorem dX12_feed_48 : decode cX12_feed 48 = .ok (.bipush 12, 2) := by decide +kernel
theorem dX12_feed_50 : decode cX12_feed 50 = .ok (.if_icmp .ge 7, 3) := by decide +kernel
theorem dX12_feed_53 : decode cX12_feed 53 = .ok (.iload_n 3, 1) := by decide +kernel
theorem dX12_feed_54 : decode cX12_feed 54 = .ok (.goto 17, 3) := by decide +kernel
theorem dX12_feed_57 : decode cX12_feed 57 = .ok (.iload 6, 2) := by decide +kernel
theorem dX12_feed_59 : decode cX12_feed 59 = .ok (.bipush 16, 2) := by decide +kernel
theorem dX12_feed_61 : decode cX12_feed 61 = .ok (.if_icmp .ge 8, 3) := by decide +kernel
theorem dX12_feed_64 : decode cX12_feed 64 = .ok (.iload 4, 2) := by decide +kernel
theorem dX12_feed_66 : decode cX12_feed 66 = .ok (.goto 5, 3) := by decide +kernel
theorem dX12_feed_69 : decode cX12_feed 69 = .ok (.iload 5, 2) := by decide +kernel
theorem dX12_feed_71 : decode cX12_feed 71 = .ok (.istore 7, 2) := by decide +kernel
theorem dX12_feed_73 : decode cX12_feed 73 = .ok (.aload_n 0, 1) := by decide +kernel
theorem dX12_feed_74 : decode cX12_feed 74 = .ok (.getfield 9, 3) := by decide +kernel
theorem dX12_feed_77 : decode cX12_feed 77 = .ok (.aload_n 0, 1) := by decide +kernel
theorem dX12_feed_78 : decode cX12_feed 78 = .ok (.getfield 94, 3) := by decide +kernel
theorem dX12_feed_81 : decode cX12_feed 81 = .ok (.iload 7, 2) := by decide +kernel
theorem dX12_feed_83 : decode cX12_feed 83 = .ok (.bipush 24, 2) := by decide +kernel
theorem dX12_feed_85 : decode cX12_feed 85 = .ok (.bipush 8, 2) := by decide +kernel
theorem dX12_feed_87 : decode cX12_feed 87 = .ok (.iload 6, 2) := by decide +kernel
theorem dX12_feed_89 : decode cX12_feed 89 = .ok (.iconst 4, 1) := by decide +kernel
theorem dX12_feed_90 : decode cX12_feed 90 = .ok (.irem, 1) := by decide +kernel
theorem dX12_feed_91 : decode cX12_feed 91 = .ok (.imul, 1) := by decide +kernel
theorem dX12_feed_92 : decode cX12_feed 92 = .ok (.isub, 1) := by decide +kernel
theorem dX12_feed_93 : decode cX12_feed 93 = .ok (.ishr, 1) := by decide +kernel
theorem dX12_feed_94 : decode cX12_feed 94 = .ok (.i2b, 1) := by decide +kernel
theorem dX12_feed_95 : decode cX12_feed 95 = .ok (.bastore, 1) := by decide +kernel
theorem dX12_feed_96 : decode cX12_feed 96 = .ok (.aload_n 0, 1) := by decide +kernel
theorem dX12_feed_97 : decode cX12_feed 97 = .ok (.dup, 1) := by decide +kernel
theorem dX12_feed_98 : decode cX12_feed 98 = .ok (.getfield 94, 3) := by decide +kernel
theorem dX12_feed_101 : decode cX12_feed 101 = .ok (.iconst 1, 1) := by decide +kernel
theorem dX12_feed_102 : decode cX12_feed 102 = .ok (.iadd, 1) := by decide +kernel
theorem dX12_feed_103 : decode cX12_feed 103 = .ok (.putfield 94, 3) := by decide +kernel
theorem dX12_feed_106 : decode cX12_feed 106 = .ok (.iinc 6 1, 3) := by decide +kernel
theorem dX12_feed_109 : decode cX12_feed 109 = .ok (.goto (-91), 3) := by decide +kernel
theorem dX12_feed_112 : decode cX12_feed 112 = .ok (.aload_n 0, 1) := by decide +kernel
theorem dX12_feed_113 : decode cX12_feed 113 = .ok (.getfield 94, 3) := by decide +kernel
theorem dX12_feed_116 : decode cX12_feed 116 = .ok (.ireturn, 1) := by decide +kernel
theorem dX12_end_0 : decode cX12_end 0 = .ok (.iload_n 1, 1) := by decide +kernel
theorem dX12_end_1 : decode cX12_end 1 = .ok (.iconst 0, 1) := by decide +kernel
theorem dX12_end_2 : decode cX12_end 2 = .ok (.aload_n 0, 1) := by decide +kernel
theorem dX12_end_3 : decode cX12_end 3 = .ok (.getfield 94, 3) := by decide +kernel
theorem dX12_end_6 : decode cX12_end 6 = .ok (.invokestatic 98, 3) := by decide +kernel
theorem dX12_end_9 : decode cX12_end 9 = .ok (.ifCond .ne 5, 3) := by decide +kernel
theorem dX12_end_12 : decode cX12_end 12 = .ok (.iconst 0, 1) := by decide +kernel
theorem dX12_end_13 : decode cX12_end 13 = .ok (.ireturn, 1) := by decide +kernel
theorem dX12_end_14 : decode cX12_end 14 = .ok (.aload_n 0, 1) := by decide +kernel
theorem dX12_end_15 : decode cX12_end 15 = .ok (.iload_n 1, 1) := by decide +kernel
theorem dX12_end_16 : decode cX12_end 16 = .ok (.putfield 94, 3) := by decide +kernel
theorem dX12_end_19 : decode cX12_end 19 = .ok (.iconst 1, 1) := by decide +kernel
theorem dX12_end_20 : decode cX12_end 20 = .ok (.ireturn, 1) := by decide +kernel
theorem dX12_isLetter_0 : decode cX12_isLetter 0 = .ok (.iload_n 0, 1) := by decide +kernel
theorem dX12_isLetter_1 : decode cX12_isLetter 1 = .ok (.bipush 97, 2) := by decide +kernel
theorem dX12_isLetter_3 : decode cX12_isLetter 3 = .ok (.if_icmp .lt 13, 3) := by decide +kernel
theorem dX12_isLetter_6 : decode cX12_isLetter 6 = .ok (.iload_n 0, 1) := by decide +kernel
theorem dX12_isLetter_7 : decode cX12_isLetter 7 = .ok (.bipush 122, 2) := by decide +kernel
theorem dX12_isLetter_9 : decode cX12_isLetter 9 = .ok (.if_icmp .gt 7, 3) := by decide +kernel
theorem dX12_isLetter_12 : decode cX12_isLetter 12 = .ok (.iconst 1, 1) := by decide +kernel
theorem dX12_isLetter_13 : decode cX12_isLetter 13 = .ok (.goto 4, 3) := by decide +kernel
theorem dX12_isLetter_16 : decode cX12_isLetter 16 = .ok (.iconst 0, 1) := by decide +kernel
theorem dX12_isLetter_17 : decode cX12_isLetter 17 = .ok (.ireturn, 1) := by decide +kernel
theorem dX12_isDigit_0 : decode cX12_isDigit 0 = .ok (.iload_n 0, 1) := by decide +kernel
theorem dX12_isDigit_1 : decode cX12_isDigit 1 = .ok (.bipush 48, 2) := by decide +kernel
theorem dX12_isDigit_3 : decode cX12_isDigit 3 = .ok (.if_icmp .lt 13, 3) := by decide +kernel
theorem dX12_isDigit_6 : decode cX12_isDigit 6 = .ok (.iload_n 0, 1) := by decide +kernel
theorem dX12_isDigit_7 : decode cX12_isDigit 7 = .ok (.bipush 57, 2) := by decide +kernel
theorem dX12_isDigit_9 : decode cX12_isDigit 9 = .ok (.if_icmp .gt 7, 3) := by decide +kernel
theorem dX12_isDigit_12 : decode cX12_isDigit 12 = .ok (.iconst 1, 1) := by decide +kernel
theorem dX12_isDigit_13 : decode cX12_isDigit 13 = .ok (.goto 4, 3) := by decide +kernel
theorem dX12_isDigit_16 : decode cX12_isDigit 16 = .ok (.iconst 0, 1) := by decide +kernel
theorem dX12_isDigit_17 : decode cX12_isDigit 17 = .ok (.ireturn, 1) := by decide +kernel
theorem dX12_isSignByte_0 : decode cX12_isSignByte 0 = .ok (.iload_n 0, 1) := by decide +kernel
theorem dX12_isSignByte_1 : decode cX12_isSignByte 1 = .ok (.bipush 43, 2) := by decide +kernel
theorem dX12_isSignByte_3 : decode cX12_isSignByte 3 = .ok (.if_icmp .eq 45, 3) := by decide +kernel
theorem dX12_isSignByte_6 : decode cX12_isSignByte 6 = .ok (.iload_n 0, 1) := by decide +kernel
theorem dX12_isSignByte_7 : decode cX12_isSignByte 7 = .ok (.bipush 45, 2) := by decide +kernel
theorem dX12_isSignByte_9 : decode cX12_isSignByte 9 = .ok (.if_icmp .eq 39, 3) := by decide +kernel
theorem dX12_isSignByte_12 : decode cX12_isSignByte 12 = .ok (.iload_n 0, 1) := by decide +kernel
theorem dX12_isSignByte_13 : decode cX12_isSignByte 13 = .ok (.bipush 42, 2) := by decide +kernel
theorem dX12_isSignByte_15 : decode cX12_isSignByte 15 = .ok (.if_icmp .eq 33, 3) := by decide +kernel
theorem dX12_isSignByte_18 : decode cX12_isSignByte 18 = .ok (.iload_n 0, 1) := by decide +kernel
theorem dX12_isSignByte_19 : decode cX12_isSignByte 19 = .ok (.bipush 60, 2) := by decide +kernel
theorem dX12_isSignByte_21 : decode cX12_isSignByte 21 = .ok (.if_icmp .eq 27, 3) := by decide +kernel
theorem dX12_isSignByte_24 : decode cX12_isSignByte 24 = .ok (.iload_n 0, 1) := by decide +kernel
theorem dX12_isSignByte_25 : decode cX12_isSignByte 25 = .ok (.bipush 61, 2) := by decide +kernel
theorem dX12_isSignByte_27 : decode cX12_isSignByte 27 = .ok (.if_icmp .eq 21, 3) := by decide +kernel
theorem dX12_isSignByte_30 : decode cX12_isSignByte 30 = .ok (.iload_n 0, 1) := by decide +kernel
theorem dX12_isSignByte_31 : decode cX12_isSignByte 31 = .ok (.bipush 40, 2) := by decide +kernel
theorem dX12_isSignByte_33 : decode cX12_isSignByte 33 = .ok (.if_icmp .eq 15, 3) := by decide +kernel
theorem dX12_isSignByte_36 : decode cX12_isSignByte 36 = .ok (.iload_n 0, 1) := by decide +kernel
theorem dX12_isSignByte_37 : decode cX12_isSignByte 37 = .ok (.bipush 41, 2) := by decide +kernel
theorem dX12_isSignByte_39 : decode cX12_isSignByte 39 = .ok (.if_icmp .eq 9, 3) := by decide +kernel
theorem dX12_isSignByte_42 : decode cX12_isSignByte 42 = .ok (.iload_n 0, 1) := by decide +kernel
theorem dX12_isSignByte_43 : decode cX12_isSignByte 43 = .ok (.bipush 59, 2) := by decide +kernel
theorem dX12_isSignByte_45 : decode cX12_isSignByte 45 = .ok (.if_icmp .ne 7, 3) := by decide +kernel
theorem dX12_isSignByte_48 : decode cX12_isSignByte 48 = .ok (.iconst 1, 1) := by decide +kernel
theorem dX12_isSignByte_49 : decode cX12_isSignByte 49 = .ok (.goto 4, 3) := by decide +kernel
theorem dX12_isSignByte_52 : decode cX12_isSignByte 52 = .ok (.iconst 0, 1) := by decide +kernel
theorem dX12_isSignByte_53 : decode cX12_isSignByte 53 = .ok (.ireturn, 1) := by decide +kernel
theorem dX12_leads_0 : decode cX12_leads 0 = .ok (.aload_n 0, 1) := by decide +kernel
theorem dX12_leads_1 : decode cX12_leads 1 = .ok (.getfield 102, 3) := by decide +kernel
theorem dX12_leads_4 : decode cX12_leads 4 = .ok (.aload_n 0, 1) := by decide +kernel
theorem dX12_leads_5 : decode cX12_leads 5 = .ok (.getfield 94, 3) := by decide +kernel
theorem dX12_leads_8 : decode cX12_leads 8 = .ok (.if_icmp .ge 44, 3) := by decide +kernel
theorem dX12_leads_11 : decode cX12_leads 11 = .ok (.aload_n 0, 1) := by decide +kernel
theorem dX12_leads_12 : decode cX12_leads 12 = .ok (.getfield 9, 3) := by decide +kernel
theorem dX12_leads_15 : decode cX12_leads 15 = .ok (.aload_n 0, 1) := by decide +kernel
theorem dX12_leads_16 : decode cX12_leads 16 = .ok (.getfield 102, 3) := by decide +kernel
theorem dX12_leads_19 : decode cX12_leads 19 = .ok (.baload, 1) := by decide +kernel
theorem dX12_leads_20 : decode cX12_leads 20 = .ok (.bipush 32, 2) := by decide +kernel
theorem dX12_leads_22 : decode cX12_leads 22 = .ok (.if_icmp .eq 17, 3) := by decide +kernel
theorem dX12_leads_25 : decode cX12_leads 25 = .ok (.aload_n 0, 1) := by decide +kernel
theorem dX12_leads_26 : decode cX12_leads 26 = .ok (.getfield 9, 3) := by decide +kernel
theorem dX12_leads_29 : decode cX12_leads 29 = .ok (.aload_n 0, 1) := by decide +kernel
theorem dX12_leads_30 : decode cX12_leads 30 = .ok (.getfield 102, 3) := by decide +kernel
theorem dX12_leads_33 : decode cX12_leads 33 = .ok (.baload, 1) := by decide +kernel
theorem dX12_leads_34 : decode cX12_leads 34 = .ok (.bipush 10, 2) := by decide +kernel
theorem dX12_leads_36 : decode cX12_leads 36 = .ok (.if_icmp .ne 16, 3) := by decide +kernel
theorem dX12_leads_39 : decode cX12_leads 39 = .ok (.aload_n 0, 1) := by decide +kernel
theorem dX12_leads_40 : decode cX12_leads 40 = .ok (.dup, 1) := by decide +kernel
theorem dX12_leads_41 : decode cX12_leads 41 = .ok (.getfield 102, 3) := by decide +kernel
theorem dX12_leads_44 : decode cX12_leads 44 = .ok (.iconst 1, 1) := by decide +kernel
theorem dX12_leads_45 : decode cX12_leads 45 = .ok (.iadd, 1) := by decide +kernel
theorem dX12_leads_46 : decode cX12_leads 46 = .ok (.putfield 102, 3) := by decide +kernel
theorem dX12_leads_49 : decode cX12_leads 49 = .ok (.goto (-49), 3) := by decide +kernel
theorem dX12_leads_52 : decode cX12_leads 52 = .ok (.aload_n 0, 1) := by decide +kernel
theorem dX12_leads_53 : decode cX12_leads 53 = .ok (.aload_n 0, 1) := by decide +kernel
theorem dX12_leads_54 : decode cX12_leads 54 = .ok (.getfield 102, 3) := by decide +kernel
theorem dX12_leads_57 : decode cX12_leads 57 = .ok (.putfield 105, 3) := by decide +kernel
theorem dX12_leads_60 : decode cX12_leads 60 = .ok (.aload_n 0, 1) := by decide +kernel
theorem dX12_leads_61 : decode cX12_leads 61 = .ok (.lconst 0, 1) := by decide +kernel
theorem dX12_leads_62 : decode cX12_leads 62 = .ok (.putfield 108, 3) := by decide +kernel
theorem dX12_leads_65 : decode cX12_leads 65 = .ok (.aload_n 0, 1) := by decide +kernel
theorem dX12_leads_66 : decode cX12_leads 66 = .ok (.iconst 0, 1) := by decide +kernel
theorem dX12_leads_67 : decode cX12_leads 67 = .ok (.putfield 112, 3) := by decide +kernel
theorem dX12_leads_70 : decode cX12_leads 70 = .ok (.aload_n 0, 1) := by decide +kernel
theorem dX12_leads_71 : decode cX12_leads 71 = .ok (.getfield 102, 3) := by decide +kernel
theorem dX12_leads_74 : decode cX12_leads 74 = .ok (.aload_n 0, 1) := by decide +kernel
theorem dX12_leads_75 : decode cX12_leads 75 = .ok (.getfield 94, 3) := by decide +kernel
theorem dX12_leads_78 : decode cX12_leads 78 = .ok (.if_icmp .ne 4, 3) := by decide +kernel
theorem dX12_leads_81 : decode cX12_leads 81 = .ok (.return_, 1) := by decide +kernel
theorem dX12_leads_82 : decode cX12_leads 82 = .ok (.aload_n 0, 1) := by decide +kernel
theorem dX12_leads_83 : decode cX12_leads 83 = .ok (.getfield 9, 3) := by decide +kernel
theorem dX12_leads_86 : decode cX12_leads 86 = .ok (.aload_n 0, 1) := by decide +kernel
theorem dX12_leads_87 : decode cX12_leads 87 = .ok (.getfield 102, 3) := by decide +kernel
theorem dX12_leads_90 : decode cX12_leads 90 = .ok (.baload, 1) := by decide +kernel
theorem dX12_leads_91 : decode cX12_leads 91 = .ok (.istore_n 1, 1) := by decide +kernel
theorem dX12_leads_92 : decode cX12_leads 92 = .ok (.iload_n 1, 1) := by decide +kernel
theorem dX12_leads_93 : decode cX12_leads 93 = .ok (.invokestatic 115, 3) := by decide +kernel
theorem dX12_leads_96 : decode cX12_leads 96 = .ok (.ifCond .eq 105, 3) := by decide +kernel
theorem dX12_leads_99 : decode cX12_leads 99 = .ok (.aload_n 0, 1) := by decide +kernel
theorem dX12_leads_100 : decode cX12_leads 100 = .ok (.getfield 102, 3) := by decide +kernel
theorem dX12_leads_103 : decode cX12_leads 103 = .ok (.aload_n 0, 1) := by decide +kernel
theorem dX12_leads_104 : decode cX12_leads 104 = .ok (.getfield 94, 3) := by decide +kernel
theorem dX12_leads_107 : decode cX12_leads 107 = .ok (.if_icmp .ge 67, 3) := by decide +kernel
theorem dX12_leads_110 : decode cX12_leads 110 = .ok (.aload_n 0, 1) := by decide +kernel
theorem dX12_leads_111 : decode cX12_leads 111 = .ok (.getfield 9, 3) := by decide +kernel
theorem dX12_leads_114 : decode cX12_leads 114 = .ok (.aload_n 0, 1) := by decide +kernel
theorem dX12_leads_115 : decode cX12_leads 115 = .ok (.getfield 102, 3) := by decide +kernel
theorem dX12_leads_118 : decode cX12_leads 118 = .ok (.baload, 1) := by decide +kernel
theorem dX12_leads_119 : decode cX12_leads 119 = .ok (.invokestatic 115, 3) := by decide +kernel
theorem dX12_leads_122 : decode cX12_leads 122 = .ok (.ifCond .eq 52, 3) := by decide +kernel
theorem dX12_leads_125 : decode cX12_leads 125 = .ok (.aload_n 0, 1) := by decide +kernel
theorem dX12_leads_126 : decode cX12_leads 126 = .ok (.getfield 102, 3) := by decide +kernel
theorem dX12_leads_129 : decode cX12_leads 129 = .ok (.aload_n 0, 1) := by decide +kernel
theorem dX12_leads_130 : decode cX12_leads 130 = .ok (.getfield 105, 3) := by decide +kernel
theorem dX12_leads_133 : decode cX12_leads 133 = .ok (.isub, 1) := by decide +kernel
theorem dX12_leads_134 : decode cX12_leads 134 = .ok (.bipush 8, 2) := by decide +kernel
theorem dX12_leads_136 : decode cX12_leads 136 = .ok (.if_icmp .ge 25, 3) := by decide +kernel
theorem dX12_leads_139 : decode cX12_leads 139 = .ok (.aload_n 0, 1) := by decide +kernel
theorem dX12_leads_140 : decode cX12_leads 140 = .ok (.aload_n 0, 1) := by decide +kernel
theorem dX12_leads_141 : decode cX12_leads 141 = .ok (.getfield 108, 3) := by decide +kernel
theorem dX12_leads_144 : decode cX12_leads 144 = .ok (.bipush 8, 2) := by decide +kernel
theorem dX12_leads_146 : decode cX12_leads 146 = .ok (.lshl, 1) := by decide +kernel
theorem dX12_leads_147 : decode cX12_leads 147 = .ok (.aload_n 0, 1) := by decide +kernel
theorem dX12_leads_148 : decode cX12_leads 148 = .ok (.getfield 9, 3) := by decide +kernel
theorem dX12_leads_151 : decode cX12_leads 151 = .ok (.aload_n 0, 1) := by decide +kernel
theorem dX12_leads_152 : decode cX12_leads 152 = .ok (.getfield 102, 3) := by decide +kernel
theorem dX12_leads_155 : decode cX12_leads 155 = .ok (.baload, 1) := by decide +kernel
theorem dX12_leads_156 : decode cX12_leads 156 = .ok (.i2l, 1) := by decide +kernel
theorem dX12_leads_157 : decode cX12_leads 157 = .ok (.lor, 1) := by decide +kernel
theorem dX12_leads_158 : decode cX12_leads 158 = .ok (.putfield 108, 3) := by decide +kernel
theorem dX12_leads_161 : decode cX12_leads 161 = .ok (.aload_n 0, 1) := by decide +kernel
theorem dX12_leads_162 : decode cX12_leads 162 = .ok (.dup, 1) := by decide +kernel
theorem dX12_leads_163 : decode cX12_leads 163 = .ok (.getfield 102, 3) := by decide +kernel
theorem dX12_leads_166 : decode cX12_leads 166 = .ok (.iconst 1, 1) := by decide +kernel
theorem dX12_leads_167 : decode cX12_leads 167 = .ok (.iadd, 1) := by decide +kernel
theorem dX12_leads_168 : decode cX12_leads 168 = .ok (.putfield 102, 3) := by decide +kernel
theorem dX12_leads_171 : decode cX12_leads 171 = .ok (.goto (-72), 3) := by decide +kernel
theorem dX12_leads_174 : decode cX12_leads 174 = .ok (.aload_n 0, 1) := by decide +kernel
theorem dX12_leads_175 : decode cX12_leads 175 = .ok (.getfield 102, 3) := by decide +kernel
theorem dX12_leads_178 : decode cX12_leads 178 = .ok (.aload_n 0, 1) := by decide +kernel
theorem dX12_leads_179 : decode cX12_leads 179 = .ok (.getfield 105, 3) := by decide +kernel
theorem dX12_leads_182 : decode cX12_leads 182 = .ok (.isub, 1) := by decide +kernel
theorem dX12_leads_183 : decode cX12_leads 183 = .ok (.bipush 8, 2) := by decide +kernel
theorem dX12_leads_185 : decode cX12_leads 185 = .ok (.if_icmp .le 8, 3) := by decide +kernel
theorem dX12_leads_188 : decode cX12_leads 188 = .ok (.aload_n 0, 1) := by decide +kernel
theorem dX12_leads_189 : decode cX12_leads 189 = .ok (.lconst 0, 1) := by decide +kernel
theorem dX12_leads_190 : decode cX12_leads 190 = .ok (.putfield 108, 3) := by decide +kernel
theorem dX12_leads_193 : decode cX12_leads 193 = .ok (.aload_n 0, 1) := by decide +kernel
theorem dX12_leads_194 : decode cX12_leads 194 = .ok (.iconst 1, 1) := by decide +kernel
theorem dX12_leads_195 : decode cX12_leads 195 = .ok (.putfield 112, 3) := by decide +kernel
theorem dX12_leads_198 : decode cX12_leads 198 = .ok (.goto 134, 3) := by decide +kernel
theorem dX12_leads_201 : decode cX12_leads 201 = .ok (.iload_n 1, 1) := by decide +kernel
theorem dX12_leads_202 : decode cX12_leads 202 = .ok (.invokestatic 119, 3) := by decide +kernel
theorem dX12_leads_205 : decode cX12_leads 205 = .ok (.ifCond .eq 95, 3) := by decide +kernel
theorem dX12_leads_208 : decode cX12_leads 208 = .ok (.aload_n 0, 1) := by decide +kernel
theorem dX12_leads_209 : decode cX12_leads 209 = .ok (.getfield 102, 3) := by decide +kernel
theorem dX12_leads_212 : decode cX12_leads 212 = .ok (.aload_n 0, 1) := by decide +kernel
theorem dX12_leads_213 : decode cX12_leads 213 = .ok (.getfield 94, 3) := by decide +kernel
theorem dX12_leads_216 : decode cX12_leads 216 = .ok (.if_icmp .ge 76, 3) := by decide +kernel
theorem dX12_leads_219 : decode cX12_leads 219 = .ok (.aload_n 0, 1) := by decide +kernel
theorem dX12_leads_220 : decode cX12_leads 220 = .ok (.getfield 9, 3) := by decide +kernel
theorem dX12_leads_223 : decode cX12_leads 223 = .ok (.aload_n 0, 1) := by decide +kernel
theorem dX12_leads_224 : decode cX12_leads 224 = .ok (.getfield 102, 3) := by decide +kernel
theorem dX12_leads_227 : decode cX12_leads 227 = .ok (.baload, 1) := by decide +kernel
theorem dX12_leads_228 : decode cX12_leads 228 = .ok (.invokestatic 119, 3) := by decide +kernel
theorem dX12_leads_231 : decode cX12_leads 231 = .ok (.ifCond .eq 61, 3) := by decide +kernel
theorem dX12_leads_234 : decode cX12_leads 234 = .ok (.aload_n 0, 1) := by decide +kernel
theorem dX12_leads_235 : decode cX12_leads 235 = .ok (.aload_n 0, 1) := by decide +kernel
theorem dX12_leads_236 : decode cX12_leads 236 = .ok (.getfield 108, 3) := by decide +kernel
theorem dX12_leads_239 : decode cX12_leads 239 = .ok (.ldc2_w 122, 3) := by decide +kernel
theorem dX12_leads_242 : decode cX12_leads 242 = .ok (.lcmp, 1) := by decide +kernel
theorem dX12_leads_243 : decode cX12_leads 243 = .ok (.ifCond .le 10, 3) := by decide +kernel
theorem dX12_leads_246 : decode cX12_leads 246 = .ok (.aload_n 0, 1) := by decide +kernel
theorem dX12_leads_247 : decode cX12_leads 247 = .ok (.getfield 108, 3) := by decide +kernel
theorem dX12_leads_250 : decode cX12_leads 250 = .ok (.goto 26, 3) := by decide +kernel
theorem dX12_leads_253 : decode cX12_leads 253 = .ok (.ldc2_w 124, 3) := by decide +kernel
theorem dX12_leads_256 : decode cX12_leads 256 = .ok (.aload_n 0, 1) := by decide +kernel
theorem dX12_leads_257 : decode cX12_leads 257 = .ok (.getfield 108, 3) := by decide +kernel
theorem dX12_leads_260 : decode cX12_leads 260 = .ok (.lmul, 1) := by decide +kernel
theorem dX12_leads_261 : decode cX12_leads 261 = .ok (.aload_n 0, 1) := by decide +kernel
theorem dX12_leads_262 : decode cX12_leads 262 = .ok (.getfield 9, 3) := by decide +kernel
theorem dX12_leads_265 : decode cX12_leads 265 = .ok (.aload_n 0, 1) := by decide +kernel
theorem dX12_leads_266 : decode cX12_leads 266 = .ok (.getfield 102, 3) := by decide +kernel
theorem dX12_leads_269 : decode cX12_leads 269 = .ok (.baload, 1) := by decide +kernel
theorem dX12_leads_270 : decode cX12_leads 270 = .ok (.i2l, 1) := by decide +kernel
theorem dX12_leads_271 : decode cX12_leads 271 = .ok (.ladd, 1) := by decide +kernel
theorem dX12_leads_272 : decode cX12_leads 272 = .ok (.ldc2_w 126, 3) := by decide +kernel
theorem dX12_leads_275 : decode cX12_leads 275 = .ok (.lsub, 1) := by decide +kernel
theorem dX12_leads_276 : decode cX12_leads 276 = .ok (.putfield 108, 3) := by decide +kernel
theorem dX12_leads_279 : decode cX12_leads 279 = .ok (.aload_n 0, 1) := by decide +kernel
theorem dX12_leads_280 : decode cX12_leads 280 = .ok (.dup, 1) := by decide +kernel
theorem dX12_leads_281 : decode cX12_leads 281 = .ok (.getfield 102, 3) := by decide +kernel
theorem dX12_leads_284 : decode cX12_leads 284 = .ok (.iconst 1, 1) := by decide +kernel
theorem dX12_leads_285 : decode cX12_leads 285 = .ok (.iadd, 1) := by decide +kernel
theorem dX12_leads_286 : decode cX12_leads 286 = .ok (.putfield 102, 3) := by decide +kernel
theorem dX12_leads_289 : decode cX12_leads 289 = .ok (.goto (-81), 3) := by decide +kernel
theorem dX12_leads_292 : decode cX12_leads 292 = .ok (.aload_n 0, 1) := by decide +kernel
theorem dX12_leads_293 : decode cX12_leads 293 = .ok (.iconst 2, 1) := by decide +kernel
theorem dX12_leads_294 : decode cX12_leads 294 = .ok (.putfield 112, 3) := by decide +kernel
theorem dX12_leads_297 : decode cX12_leads 297 = .ok (.goto 35, 3) := by decide +kernel
theorem dX12_leads_300 : decode cX12_leads 300 = .ok (.aload_n 0, 1) := by decide +kernel
theorem dX12_leads_301 : decode cX12_leads 301 = .ok (.iload_n 1, 1) := by decide +kernel
theorem dX12_leads_302 : decode cX12_leads 302 = .ok (.invokestatic 128, 3) := by decide +kernel
theorem dX12_leads_305 : decode cX12_leads 305 = .ok (.ifCond .eq 7, 3) := by decide +kernel
theorem dX12_leads_308 : decode cX12_leads 308 = .ok (.iconst 3, 1) := by decide +kernel
theorem dX12_leads_309 : decode cX12_leads 309 = .ok (.goto 4, 3) := by decide +kernel
theorem dX12_leads_312 : decode cX12_leads 312 = .ok (.iconst 4, 1) := by decide +kernel
theorem dX12_leads_313 : decode cX12_leads 313 = .ok (.putfield 112, 3) := by decide +kernel
theorem dX12_leads_316 : decode cX12_leads 316 = .ok (.aload_n 0, 1) := by decide +kernel
theorem dX12_leads_317 : decode cX12_leads 317 = .ok (.iload_n 1, 1) := by decide +kernel
theorem dX12_leads_318 : decode cX12_leads 318 = .ok (.i2l, 1) := by decide +kernel
theorem dX12_leads_319 : decode cX12_leads 319 = .ok (.putfield 108, 3) := by decide +kernel
theorem dX12_leads_322 : decode cX12_leads 322 = .ok (.aload_n 0, 1) := by decide +kernel
theorem dX12_leads_323 : decode cX12_leads 323 = .ok (.dup, 1) := by decide +kernel
theorem dX12_leads_324 : decode cX12_leads 324 = .ok (.getfield 102, 3) := by decide +kernel
theorem dX12_leads_327 : decode cX12_leads 327 = .ok (.iconst 1, 1) := by decide +kernel
theorem dX12_leads_328 : decode cX12_leads 328 = .ok (.iadd, 1) := by decide +kernel
theorem dX12_leads_329 : decode cX12_leads 329 = .ok (.putfield 102, 3) := by decide +kernel
theorem dX12_leads_332 : decode cX12_leads 332 = .ok (.return_, 1) := by decide +kernel
theorem dX12_packed_0 : decode cX12_packed 0 = .ok (.lconst 0, 1) := by decide +kernel
theorem dX12_packed_1 : decode cX12_packed 1 = .ok (.lstore_n 1, 1) := by decide +kernel
theorem dX12_packed_2 : decode cX12_packed 2 = .ok (.iconst 0, 1) := by decide +kernel
theorem dX12_packed_3 : decode cX12_packed 3 = .ok (.istore_n 3, 1) := by decide +kernel
theorem dX12_packed_4 : decode cX12_packed 4 = .ok (.iload_n 3, 1) := by decide +kernel
theorem dX12_packed_5 : decode cX12_packed 5 = .ok (.aload_n 0, 1) := by decide +kernel
theorem dX12_packed_6 : decode cX12_packed 6 = .ok (.invokevirtual 131, 3) := by decide +kernel
theorem dX12_packed_9 : decode cX12_packed 9 = .ok (.if_icmp .ge 21, 3) := by decide +kernel
theorem dX12_packed_12 : decode cX12_packed 12 = .ok (.lload_n 1, 1) := by decide +kernel
theorem dX12_packed_13 : decode cX12_packed 13 = .ok (.bipush 8, 2) := by decide +kernel
theorem dX12_packed_15 : decode cX12_packed 15 = .ok (.lshl, 1) := by decide +kernel
theorem dX12_packed_16 : decode cX12_packed 16 = .ok (.aload_n 0, 1) := by decide +kernel
theorem dX12_packed_17 : decode cX12_packed 17 = .ok (.iload_n 3, 1) := by decide +kernel
theorem dX12_packed_18 : decode cX12_packed 18 = .ok (.invokevirtual 137, 3) := by decide +kernel
theorem dX12_packed_21 : decode cX12_packed 21 = .ok (.i2l, 1) := by decide +kernel
theorem dX12_packed_22 : decode cX12_packed 22 = .ok (.lor, 1) := by decide +kernel
theorem dX12_packed_23 : decode cX12_packed 23 = .ok (.lstore_n 1, 1) := by decide +kernel
theorem dX12_packed_24 : decode cX12_packed 24 = .ok (.iinc 3 1, 3) := by decide +kernel
theorem dX12_packed_27 : decode cX12_packed 27 = .ok (.goto (-23), 3) := by decide +kernel
theorem dX12_packed_30 : decode cX12_packed 30 = .ok (.lload_n 1, 1) := by decide +kernel
theorem dX12_packed_31 : decode cX12_packed 31 = .ok (.lreturn, 1) := by decide +kernel
theorem dX12_isWord_0 : decode cX12_isWord 0 = .ok (.aload_n 0, 1) := by decide +kernel
theorem dX12_isWord_1 : decode cX12_isWord 1 = .ok (.getfield 112, 3) := by decide +kernel
theorem dX12_isWord_4 : decode cX12_isWord 4 = .ok (.iconst 1, 1) := by decide +kernel
theorem dX12_isWord_5 : decode cX12_isWord 5 = .ok (.if_icmp .ne 19, 3) := by decide +kernel
theorem dX12_isWord_8 : decode cX12_isWord 8 = .ok (.aload_n 0, 1) := by decide +kernel
theorem dX12_isWord_9 : decode cX12_isWord 9 = .ok (.getfield 108, 3) := by decide +kernel
theorem dX12_isWord_12 : decode cX12_isWord 12 = .ok (.aload_n 1, 1) := by decide +kernel
theorem dX12_isWord_13 : decode cX12_isWord 13 = .ok (.invokestatic 141, 3) := by decide +kernel
theorem dX12_isWord_16 : decode cX12_isWord 16 = .ok (.lcmp, 1) := by decide +kernel
theorem dX12_isWord_17 : decode cX12_isWord 17 = .ok (.ifCond .ne 7, 3) := by decide +kernel
theorem dX12_isWord_20 : decode cX12_isWord 20 = .ok (.iconst 1, 1) := by decide +kernel
theorem dX12_isWord_21 : decode cX12_isWord 21 = .ok (.goto 4, 3) := by decide +kernel
theorem dX12_isWord_24 : decode cX12_isWord 24 = .ok (.iconst 0, 1) := by decide +kernel
theorem dX12_isWord_25 : decode cX12_isWord 25 = .ok (.ireturn, 1) := by decide +kernel
theorem dX12_isSign_0 : decode cX12_isSign 0 = .ok (.aload_n 0, 1) := by decide +kernel
theorem dX12_isSign_1 : decode cX12_isSign 1 = .ok (.getfield 112, 3) := by decide +kernel
theorem dX12_isSign_4 : decode cX12_isSign 4 = .ok (.iconst 3, 1) := by decide +kernel
theorem dX12_isSign_5 : decode cX12_isSign 5 = .ok (.if_icmp .ne 17, 3) := by decide +kernel
theorem dX12_isSign_8 : decode cX12_isSign 8 = .ok (.aload_n 0, 1) := by decide +kernel
theorem dX12_isSign_9 : decode cX12_isSign 9 = .ok (.getfield 108, 3) := by decide +kernel
theorem dX12_isSign_12 : decode cX12_isSign 12 = .ok (.iload_n 1, 1) := by decide +kernel
theorem dX12_isSign_13 : decode cX12_isSign 13 = .ok (.i2l, 1) := by decide +kernel
theorem dX12_isSign_14 : decode cX12_isSign 14 = .ok (.lcmp, 1) := by decide +kernel
theorem dX12_isSign_15 : decode cX12_isSign 15 = .ok (.ifCond .ne 7, 3) := by decide +kernel
theorem dX12_isSign_18 : decode cX12_isSign 18 = .ok (.iconst 1, 1) := by decide +kernel
theorem dX12_isSign_19 : decode cX12_isSign 19 = .ok (.goto 4, 3) := by decide +kernel
theorem dX12_isSign_22 : decode cX12_isSign 22 = .ok (.iconst 0, 1) := by decide +kernel
theorem dX12_isSign_23 : decode cX12_isSign 23 = .ok (.ireturn, 1) := by decide +kernel
theorem dX12_closes_0 : decode cX12_closes 0 = .ok (.aload_n 0, 1) := by decide +kernel
theorem dX12_closes_1 : decode cX12_closes 1 = .ok (.bipush 59, 2) := by decide +kernel
theorem dX12_closes_3 : decode cX12_closes 3 = .ok (.invokevirtual 145, 3) := by decide +kernel
theorem dX12_closes_6 : decode cX12_closes 6 = .ok (.ifCond .ne 5, 3) := by decide +kernel
theorem dX12_closes_9 : decode cX12_closes 9 = .ok (.iconst 0, 1) := by decide +kernel
theorem dX12_closes_10 : decode cX12_closes 10 = .ok (.ireturn, 1) := by decide +kernel
theorem dX12_closes_11 : decode cX12_closes 11 = .ok (.aload_n 0, 1) := by decide +kernel
theorem dX12_closes_12 : decode cX12_closes 12 = .ok (.invokevirtual 148, 3) := by decide +kernel
theorem dX12_closes_15 : decode cX12_closes 15 = .ok (.iconst 1, 1) := by decide +kernel
theorem dX12_closes_16 : decode cX12_closes 16 = .ok (.ireturn, 1) := by decide +kernel
theorem dX12_number_0 : decode cX12_number 0 = .ok (.aload_n 0, 1) := by decide +kernel
theorem dX12_number_1 : decode cX12_number 1 = .ok (.getfield 112, 3) := by decide +kernel
theorem dX12_number_4 : decode cX12_number 4 = .ok (.iconst 2, 1) := by decide +kernel
theorem dX12_number_5 : decode cX12_number 5 = .ok (.if_icmp .ne 23, 3) := by decide +kernel
theorem dX12_number_8 : decode cX12_number 8 = .ok (.aload_n 0, 1) := by decide +kernel
theorem dX12_number_9 : decode cX12_number 9 = .ok (.getfield 108, 3) := by decide +kernel
theorem dX12_number_12 : decode cX12_number 12 = .ok (.iload_n 1, 1) := by decide +kernel
theorem dX12_number_13 : decode cX12_number 13 = .ok (.i2l, 1) := by decide +kernel
theorem dX12_number_14 : decode cX12_number 14 = .ok (.lcmp, 1) := by decide +kernel
theorem dX12_number_15 : decode cX12_number 15 = .ok (.ifCond .lt 13, 3) := by decide +kernel
theorem dX12_number_18 : decode cX12_number 18 = .ok (.aload_n 0, 1) := by decide +kernel
theorem dX12_number_19 : decode cX12_number 19 = .ok (.getfield 108, 3) := by decide +kernel
theorem dX12_number_22 : decode cX12_number 22 = .ok (.iload_n 2, 1) := by decide +kernel
theorem dX12_number_23 : decode cX12_number 23 = .ok (.i2l, 1) := by decide +kernel
theorem dX12_number_24 : decode cX12_number 24 = .ok (.lcmp, 1) := by decide +kernel
theorem dX12_number_25 : decode cX12_number 25 = .ok (.ifCond .le 5, 3) := by decide +kernel
theorem dX12_number_28 : decode cX12_number 28 = .ok (.iconst 0, 1) := by decide +kernel
theorem dX12_number_29 : decode cX12_number 29 = .ok (.ireturn, 1) := by decide +kernel
theorem dX12_number_30 : decode cX12_number 30 = .ok (.aload_n 0, 1) := by decide +kernel
theorem dX12_number_31 : decode cX12_number 31 = .ok (.aload_n 0, 1) := by decide +kernel
theorem dX12_number_32 : decode cX12_number 32 = .ok (.getfield 108, 3) := by decide +kernel
theorem dX12_number_35 : decode cX12_number 35 = .ok (.l2i, 1) := by decide +kernel
theorem dX12_number_36 : decode cX12_number 36 = .ok (.putfield 151, 3) := by decide +kernel
theorem dX12_number_39 : decode cX12_number 39 = .ok (.aload_n 0, 1) := by decide +kernel
theorem dX12_number_40 : decode cX12_number 40 = .ok (.invokevirtual 148, 3) := by decide +kernel
theorem dX12_number_43 : decode cX12_number 43 = .ok (.iconst 1, 1) := by decide +kernel
theorem dX12_number_44 : decode cX12_number 44 = .ok (.ireturn, 1) := by decide +kernel
theorem dX12_isName_0 : decode cX12_isName 0 = .ok (.aload_n 0, 1) := by decide +kernel
theorem dX12_isName_1 : decode cX12_isName 1 = .ok (.getfield 112, 3) := by decide +kernel
theorem dX12_isName_4 : decode cX12_isName 4 = .ok (.iconst 1, 1) := by decide +kernel
theorem dX12_isName_5 : decode cX12_isName 5 = .ok (.if_icmp .ne 70, 3) := by decide +kernel
theorem dX12_isName_8 : decode cX12_isName 8 = .ok (.aload_n 0, 1) := by decide +kernel
theorem dX12_isName_9 : decode cX12_isName 9 = .ok (.getfield 108, 3) := by decide +kernel
theorem dX12_isName_12 : decode cX12_isName 12 = .ok (.lconst 0, 1) := by decide +kernel
theorem dX12_isName_13 : decode cX12_isName 13 = .ok (.lcmp, 1) := by decide +kernel
theorem dX12_isName_14 : decode cX12_isName 14 = .ok (.ifCond .eq 61, 3) := by decide +kernel
theorem dX12_isName_17 : decode cX12_isName 17 = .ok (.aload_n 0, 1) := by decide +kernel
theorem dX12_isName_18 : decode cX12_isName 18 = .ok (.ldc 154, 2) := by decide +kernel
theorem dX12_isName_20 : decode cX12_isName 20 = .ok (.invokevirtual 156, 3) := by decide +kernel
theorem dX12_isName_23 : decode cX12_isName 23 = .ok (.ifCond .ne 52, 3) := by decide +kernel
theorem dX12_isName_26 : decode cX12_isName 26 = .ok (.aload_n 0, 1) := by decide +kernel
theorem dX12_isName_27 : decode cX12_isName 27 = .ok (.ldc 160, 2) := by decide +kernel
theorem dX12_isName_29 : decode cX12_isName 29 = .ok (.invokevirtual 156, 3) := by decide +kernel
theorem dX12_isName_32 : decode cX12_isName 32 = .ok (.ifCond .ne 43, 3) := by decide +kernel
theorem dX12_isName_35 : decode cX12_isName 35 = .ok (.aload_n 0, 1) := by decide +kernel
theorem dX12_isName_36 : decode cX12_isName 36 = .ok (.ldc 162, 2) := by decide +kernel
theorem dX12_isName_38 : decode cX12_isName 38 = .ok (.invokevirtual 156, 3) := by decide +kernel
theorem dX12_isName_41 : decode cX12_isName 41 = .ok (.ifCond .ne 34, 3) := by decide +kernel
theorem dX12_isName_44 : decode cX12_isName 44 = .ok (.aload_n 0, 1) := by decide +kernel
theorem dX12_isName_45 : decode cX12_isName 45 = .ok (.ldc 164, 2) := by decide +kernel
theorem dX12_isName_47 : decode cX12_isName 47 = .ok (.invokevirtual 156, 3) := by decide +kernel
theorem dX12_isName_50 : decode cX12_isName 50 = .ok (.ifCond .ne 25, 3) := by decide +kernel
theorem dX12_isName_53 : decode cX12_isName 53 = .ok (.aload_n 0, 1) := by decide +kernel
theorem dX12_isName_54 : decode cX12_isName 54 = .ok (.ldc 166, 2) := by decide +kernel
theorem dX12_isName_56 : decode cX12_isName 56 = .ok (.invokevirtual 156, 3) := by decide +kernel
theorem dX12_isName_59 : decode cX12_isName 59 = .ok (.ifCond .ne 16, 3) := by decide +kernel
theorem dX12_isName_62 : decode cX12_isName 62 = .ok (.aload_n 0, 1) := by decide +kernel
theorem dX12_isName_63 : decode cX12_isName 63 = .ok (.ldc 168, 2) := by decide +kernel
theorem dX12_isName_65 : decode cX12_isName 65 = .ok (.invokevirtual 156, 3) := by decide +kernel
theorem dX12_isName_68 : decode cX12_isName 68 = .ok (.ifCond .ne 7, 3) := by decide +kernel
theorem dX12_isName_71 : decode cX12_isName 71 = .ok (.iconst 1, 1) := by decide +kernel
theorem dX12_isName_72 : decode cX12_isName 72 = .ok (.goto 4, 3) := by decide +kernel
theorem dX12_isName_75 : decode cX12_isName 75 = .ok (.iconst 0, 1) := by decide +kernel
theorem dX12_isName_76 : decode cX12_isName 76 = .ok (.ireturn, 1) := by decide +kernel
theorem dX12_named_0 : decode cX12_named 0 = .ok (.iconst 0, 1) := by decide +kernel
theorem dX12_named_1 : decode cX12_named 1 = .ok (.istore_n 1, 1) := by decide +kernel
theorem dX12_named_2 : decode cX12_named 2 = .ok (.iload_n 1, 1) := by decide +kernel
theorem dX12_named_3 : decode cX12_named 3 = .ok (.aload_n 0, 1) := by decide +kernel
theorem dX12_named_4 : decode cX12_named 4 = .ok (.getfield 169, 3) := by decide +kernel
theorem dX12_named_7 : decode cX12_named 7 = .ok (.if_icmp .ge 32, 3) := by decide +kernel
theorem dX12_named_10 : decode cX12_named 10 = .ok (.aload_n 0, 1) := by decide +kernel
theorem dX12_named_11 : decode cX12_named 11 = .ok (.invokevirtual 172, 3) := by decide +kernel
theorem dX12_named_14 : decode cX12_named 14 = .ok (.ifCond .eq 25, 3) := by decide +kernel
theorem dX12_named_17 : decode cX12_named 17 = .ok (.aload_n 0, 1) := by decide +kernel
theorem dX12_named_18 : decode cX12_named 18 = .ok (.getfield 13, 3) := by decide +kernel
theorem dX12_named_21 : decode cX12_named 21 = .ok (.iload_n 1, 1) := by decide +kernel
theorem dX12_named_22 : decode cX12_named 22 = .ok (.laload, 1) := by decide +kernel
theorem dX12_named_23 : decode cX12_named 23 = .ok (.aload_n 0, 1) := by decide +kernel
theorem dX12_named_24 : decode cX12_named 24 = .ok (.getfield 108, 3) := by decide +kernel
theorem dX12_named_27 : decode cX12_named 27 = .ok (.lcmp, 1) := by decide +kernel
theorem dX12_named_28 : decode cX12_named 28 = .ok (.ifCond .ne 5, 3) := by decide +kernel
theorem dX12_named_31 : decode cX12_named 31 = .ok (.iload_n 1, 1) := by decide +kernel
theorem dX12_named_32 : decode cX12_named 32 = .ok (.ireturn, 1) := by decide +kernel
theorem dX12_named_33 : decode cX12_named 33 = .ok (.iinc 1 1, 3) := by decide +kernel
theorem dX12_named_36 : decode cX12_named 36 = .ok (.goto (-34), 3) := by decide +kernel
theorem dX12_named_39 : decode cX12_named 39 = .ok (.iconst (-1), 1) := by decide +kernel
theorem dX12_named_40 : decode cX12_named 40 = .ok (.ireturn, 1) := by decide +kernel
theorem dX12_soundLine_0 : decode cX12_soundLine 0 = .ok (.aload_n 0, 1) := by decide +kernel
theorem dX12_soundLine_1 : decode cX12_soundLine 1 = .ok (.getfield 169, 3) := by decide +kernel
theorem dX12_soundLine_4 : decode cX12_soundLine 4 = .ok (.bipush 9, 2) := by decide +kernel
theorem dX12_soundLine_6 : decode cX12_soundLine 6 = .ok (.if_icmp .ne 5, 3) := by decide +kernel
theorem dX12_soundLine_9 : decode cX12_soundLine 9 = .ok (.iconst 0, 1) := by decide +kernel
theorem dX12_soundLine_10 : decode cX12_soundLine 10 = .ok (.ireturn, 1) := by decide +kernel
theorem dX12_soundLine_11 : decode cX12_soundLine 11 = .ok (.aload_n 0, 1) := by decide +kernel
theorem dX12_soundLine_12 : decode cX12_soundLine 12 = .ok (.invokevirtual 148, 3) := by decide +kernel
theorem dX12_soundLine_15 : decode cX12_soundLine 15 = .ok (.aload_n 0, 1) := by decide +kernel
theorem dX12_soundLine_16 : decode cX12_soundLine 16 = .ok (.invokevirtual 172, 3) := by decide +kernel
theorem dX12_soundLine_19 : decode cX12_soundLine 19 = .ok (.ifCond .eq 11, 3) := by decide +kernel
theorem dX12_soundLine_22 : decode cX12_soundLine 22 = .ok (.aload_n 0, 1) := by decide +kernel
theorem dX12_soundLine_23 : decode cX12_soundLine 23 = .ok (.invokevirtual 176, 3) := by decide +kernel
theorem dX12_soundLine_26 : decode cX12_soundLine 26 = .ok (.iconst (-1), 1) := by decide +kernel
theorem dX12_soundLine_27 : decode cX12_soundLine 27 = .ok (.if_icmp .eq 5, 3) := by decide +kernel
theorem dX12_soundLine_30 : decode cX12_soundLine 30 = .ok (.iconst 0, 1) := by decide +kernel
theorem dX12_soundLine_31 : decode cX12_soundLine 31 = .ok (.ireturn, 1) := by decide +kernel
theorem dX12_soundLine_32 : decode cX12_soundLine 32 = .ok (.aload_n 0, 1) := by decide +kernel
theorem dX12_soundLine_33 : decode cX12_soundLine 33 = .ok (.getfield 108, 3) := by decide +kernel
theorem dX12_soundLine_36 : decode cX12_soundLine 36 = .ok (.lstore_n 1, 1) := by decide +kernel
theorem dX12_soundLine_37 : decode cX12_soundLine 37 = .ok (.aload_n 0, 1) := by decide +kernel
theorem dX12_soundLine_38 : decode cX12_soundLine 38 = .ok (.invokevirtual 148, 3) := by decide +kernel
theorem dX12_soundLine_41 : decode cX12_soundLine 41 = .ok (.aload_n 0, 1) := by decide +kernel
theorem dX12_soundLine_42 : decode cX12_soundLine 42 = .ok (.iconst 0, 1) := by decide +kernel
theorem dX12_soundLine_43 : decode cX12_soundLine 43 = .ok (.bipush 99, 2) := by decide +kernel
theorem dX12_soundLine_45 : decode cX12_soundLine 45 = .ok (.invokevirtual 179, 3) := by decide +kernel
theorem dX12_soundLine_48 : decode cX12_soundLine 48 = .ok (.ifCond .ne 5, 3) := by decide +kernel
theorem dX12_soundLine_51 : decode cX12_soundLine 51 = .ok (.iconst 0, 1) := by decide +kernel
theorem dX12_soundLine_52 : decode cX12_soundLine 52 = .ok (.ireturn, 1) := by decide +kernel
theorem dX12_soundLine_53 : decode cX12_soundLine 53 = .ok (.aload_n 0, 1) := by decide +kernel
theorem dX12_soundLine_54 : decode cX12_soundLine 54 = .ok (.getfield 151, 3) := by decide +kernel
theorem dX12_soundLine_57 : decode cX12_soundLine 57 = .ok (.istore_n 3, 1) := by decide +kernel
theorem dX12_soundLine_58 : decode cX12_soundLine 58 = .ok (.iconst 0, 1) := by decide +kernel
theorem dX12_soundLine_59 : decode cX12_soundLine 59 = .ok (.istore 4, 2) := by decide +kernel
theorem dX12_soundLine_61 : decode cX12_soundLine 61 = .ok (.iload 4, 2) := by decide +kernel
theorem dX12_soundLine_63 : decode cX12_soundLine 63 = .ok (.aload_n 0, 1) := by decide +kernel
theorem dX12_soundLine_64 : decode cX12_soundLine 64 = .ok (.getfield 169, 3) := by decide +kernel
theorem dX12_soundLine_67 : decode cX12_soundLine 67 = .ok (.if_icmp .ge 52, 3) := by decide +kernel
theorem dX12_soundLine_70 : decode cX12_soundLine 70 = .ok (.aload_n 0, 1) := by decide +kernel
theorem dX12_soundLine_71 : decode cX12_soundLine 71 = .ok (.getfield 112, 3) := by decide +kernel
theorem dX12_soundLine_74 : decode cX12_soundLine 74 = .ok (.iconst 2, 1) := by decide +kernel
theorem dX12_soundLine_75 : decode cX12_soundLine 75 = .ok (.if_icmp .ne 38, 3) := by decide +kernel
theorem dX12_soundLine_78 : decode cX12_soundLine 78 = .ok (.aload_n 0, 1) := by decide +kernel
theorem dX12_soundLine_79 : decode cX12_soundLine 79 = .ok (.getfield 17, 3) := by decide +kernel
theorem dX12_soundLine_82 : decode cX12_soundLine 82 = .ok (.iconst 3, 1) := by decide +kernel
theorem dX12_soundLine_83 : decode cX12_soundLine 83 = .ok (.iload 4, 2) := by decide +kernel
theorem dX12_soundLine_85 : decode cX12_soundLine 85 = .ok (.imul, 1) := by decide +kernel
theorem dX12_soundLine_86 : decode cX12_soundLine 86 = .ok (.iaload, 1) := by decide +kernel
theorem dX12_soundLine_87 : decode cX12_soundLine 87 = .ok (.iload_n 3, 1) := by decide +kernel
theorem dX12_soundLine_88 : decode cX12_soundLine 88 = .ok (.if_icmp .ne 25, 3) := by decide +kernel
theorem dX12_soundLine_91 : decode cX12_soundLine 91 = .ok (.aload_n 0, 1) := by decide +kernel
theorem dX12_soundLine_92 : decode cX12_soundLine 92 = .ok (.getfield 17, 3) := by decide +kernel
theorem dX12_soundLine_95 : decode cX12_soundLine 95 = .ok (.iconst 3, 1) := by decide +kernel
theorem dX12_soundLine_96 : decode cX12_soundLine 96 = .ok (.iload 4, 2) := by decide +kernel
theorem dX12_soundLine_98 : decode cX12_soundLine 98 = .ok (.imul, 1) := by decide +kernel
theorem dX12_soundLine_99 : decode cX12_soundLine 99 = .ok (.iconst 1, 1) := by decide +kernel
theorem dX12_soundLine_100 : decode cX12_soundLine 100 = .ok (.iadd, 1) := by decide +kernel
theorem dX12_soundLine_101 : decode cX12_soundLine 101 = .ok (.iaload, 1) := by decide +kernel
theorem dX12_soundLine_102 : decode cX12_soundLine 102 = .ok (.i2l, 1) := by decide +kernel
theorem dX12_soundLine_103 : decode cX12_soundLine 103 = .ok (.aload_n 0, 1) := by decide +kernel
theorem dX12_soundLine_104 : decode cX12_soundLine 104 = .ok (.getfield 108, 3) := by decide +kernel
theorem dX12_soundLine_107 : decode cX12_soundLine 107 = .ok (.lcmp, 1) := by decide +kernel
theorem dX12_soundLine_108 : decode cX12_soundLine 108 = .ok (.ifCond .ne 5, 3) := by decide +kernel
theorem dX12_soundLine_111 : decode cX12_soundLine 111 = .ok (.iconst 0, 1) := by decide +kernel
theorem dX12_soundLine_112 : decode cX12_soundLine 112 = .ok (.ireturn, 1) := by decide +kernel
theorem dX12_soundLine_113 : decode cX12_soundLine 113 = .ok (.iinc 4 1, 3) := by decide +kernel
theorem dX12_soundLine_116 : decode cX12_soundLine 116 = .ok (.goto (-55), 3) := by decide +kernel
theorem dX12_soundLine_119 : decode cX12_soundLine 119 = .ok (.aload_n 0, 1) := by decide +kernel
theorem dX12_soundLine_120 : decode cX12_soundLine 120 = .ok (.iconst 0, 1) := by decide +kernel
theorem dX12_soundLine_121 : decode cX12_soundLine 121 = .ok (.bipush 99, 2) := by decide +kernel
theorem dX12_soundLine_123 : decode cX12_soundLine 123 = .ok (.invokevirtual 179, 3) := by decide +kernel
theorem dX12_soundLine_126 : decode cX12_soundLine 126 = .ok (.ifCond .ne 5, 3) := by decide +kernel
theorem dX12_soundLine_129 : decode cX12_soundLine 129 = .ok (.iconst 0, 1) := by decide +kernel
theorem dX12_soundLine_130 : decode cX12_soundLine 130 = .ok (.ireturn, 1) := by decide +kernel
theorem dX12_soundLine_131 : decode cX12_soundLine 131 = .ok (.aload_n 0, 1) := by decide +kernel
theorem dX12_soundLine_132 : decode cX12_soundLine 132 = .ok (.getfield 13, 3) := by decide +kernel
theorem dX12_soundLine_135 : decode cX12_soundLine 135 = .ok (.aload_n 0, 1) := by decide +kernel
theorem dX12_soundLine_136 : decode cX12_soundLine 136 = .ok (.getfield 169, 3) := by decide +kernel
theorem dX12_soundLine_139 : decode cX12_soundLine 139 = .ok (.lload_n 1, 1) := by decide +kernel
theorem dX12_soundLine_140 : decode cX12_soundLine 140 = .ok (.lastore, 1) := by decide +kernel
theorem dX12_soundLine_141 : decode cX12_soundLine 141 = .ok (.aload_n 0, 1) := by decide +kernel
theorem dX12_soundLine_142 : decode cX12_soundLine 142 = .ok (.getfield 17, 3) := by decide +kernel
theorem dX12_soundLine_145 : decode cX12_soundLine 145 = .ok (.iconst 3, 1) := by decide +kernel
theorem dX12_soundLine_146 : decode cX12_soundLine 146 = .ok (.aload_n 0, 1) := by decide +kernel
theorem dX12_soundLine_147 : decode cX12_soundLine 147 = .ok (.getfield 169, 3) := by decide +kernel
theorem dX12_soundLine_150 : decode cX12_soundLine 150 = .ok (.imul, 1) := by decide +kernel
theorem dX12_soundLine_151 : decode cX12_soundLine 151 = .ok (.iload_n 3, 1) := by decide +kernel
theorem dX12_soundLine_152 : decode cX12_soundLine 152 = .ok (.iastore, 1) := by decide +kernel
theorem dX12_soundLine_153 : decode cX12_soundLine 153 = .ok (.aload_n 0, 1) := by decide +kernel
theorem dX12_soundLine_154 : decode cX12_soundLine 154 = .ok (.getfield 17, 3) := by decide +kernel
theorem dX12_soundLine_157 : decode cX12_soundLine 157 = .ok (.iconst 3, 1) := by decide +kernel
theorem dX12_soundLine_158 : decode cX12_soundLine 158 = .ok (.aload_n 0, 1) := by decide +kernel
theorem dX12_soundLine_159 : decode cX12_soundLine 159 = .ok (.getfield 169, 3) := by decide +kernel
theorem dX12_soundLine_162 : decode cX12_soundLine 162 = .ok (.imul, 1) := by decide +kernel
theorem dX12_soundLine_163 : decode cX12_soundLine 163 = .ok (.iconst 1, 1) := by decide +kernel
theorem dX12_soundLine_164 : decode cX12_soundLine 164 = .ok (.iadd, 1) := by decide +kernel
theorem dX12_soundLine_165 : decode cX12_soundLine 165 = .ok (.aload_n 0, 1) := by decide +kernel
theorem dX12_soundLine_166 : decode cX12_soundLine 166 = .ok (.getfield 151, 3) := by decide +kernel
theorem dX12_soundLine_169 : decode cX12_soundLine 169 = .ok (.iastore, 1) := by decide +kernel
theorem dX12_soundLine_170 : decode cX12_soundLine 170 = .ok (.aload_n 0, 1) := by decide +kernel
theorem dX12_soundLine_171 : decode cX12_soundLine 171 = .ok (.getfield 17, 3) := by decide +kernel
theorem dX12_soundLine_174 : decode cX12_soundLine 174 = .ok (.iconst 3, 1) := by decide +kernel
theorem dX12_soundLine_175 : decode cX12_soundLine 175 = .ok (.aload_n 0, 1) := by decide +kernel
theorem dX12_soundLine_176 : decode cX12_soundLine 176 = .ok (.getfield 169, 3) := by decide +kernel
theorem dX12_soundLine_179 : decode cX12_soundLine 179 = .ok (.imul, 1) := by decide +kernel
theorem dX12_soundLine_180 : decode cX12_soundLine 180 = .ok (.iconst 2, 1) := by decide +kernel
theorem dX12_soundLine_181 : decode cX12_soundLine 181 = .ok (.iadd, 1) := by decide +kernel
theorem dX12_soundLine_182 : decode cX12_soundLine 182 = .ok (.iconst 1, 1) := by decide +kernel
theorem dX12_soundLine_183 : decode cX12_soundLine 183 = .ok (.iastore, 1) := by decide +kernel
theorem dX12_soundLine_184 : decode cX12_soundLine 184 = .ok (.aload_n 0, 1) := by decide +kernel
theorem dX12_soundLine_185 : decode cX12_soundLine 185 = .ok (.getfield 21, 3) := by decide +kernel
theorem dX12_soundLine_188 : decode cX12_soundLine 188 = .ok (.aload_n 0, 1) := by decide +kernel
theorem dX12_soundLine_189 : decode cX12_soundLine 189 = .ok (.getfield 169, 3) := by decide +kernel
theorem dX12_soundLine_192 : decode cX12_soundLine 192 = .ok (.iconst 0, 1) := by decide +kernel
theorem dX12_soundLine_193 : decode cX12_soundLine 193 = .ok (.bastore, 1) := by decide +kernel
theorem dX12_soundLine_194 : decode cX12_soundLine 194 = .ok (.aload_n 0, 1) := by decide +kernel
theorem dX12_soundLine_195 : decode cX12_soundLine 195 = .ok (.dup, 1) := by decide +kernel
theorem dX12_soundLine_196 : decode cX12_soundLine 196 = .ok (.getfield 169, 3) := by decide +kernel
theorem dX12_soundLine_199 : decode cX12_soundLine 199 = .ok (.iconst 1, 1) := by decide +kernel
theorem dX12_soundLine_200 : decode cX12_soundLine 200 = .ok (.iadd, 1) := by decide +kernel
theorem dX12_soundLine_201 : decode cX12_soundLine 201 = .ok (.putfield 169, 3) := by decide +kernel
theorem dX12_soundLine_204 : decode cX12_soundLine 204 = .ok (.aload_n 0, 1) := by decide +kernel
theorem dX12_soundLine_205 : decode cX12_soundLine 205 = .ok (.invokevirtual 183, 3) := by decide +kernel
theorem dX12_soundLine_208 : decode cX12_soundLine 208 = .ok (.ireturn, 1) := by decide +kernel
theorem dX12_spanLine_0 : decode cX12_spanLine 0 = .ok (.aload_n 0, 1) := by decide +kernel
theorem dX12_spanLine_1 : decode cX12_spanLine 1 = .ok (.getfield 25, 3) := by decide +kernel
theorem dX12_spanLine_4 : decode cX12_spanLine 4 = .ok (.iload_n 1, 1) := by decide +kernel
theorem dX12_spanLine_5 : decode cX12_spanLine 5 = .ok (.iaload, 1) := by decide +kernel
theorem dX12_spanLine_6 : decode cX12_spanLine 6 = .ok (.iconst (-1), 1) := by decide +kernel
theorem dX12_spanLine_7 : decode cX12_spanLine 7 = .ok (.if_icmp .eq 5, 3) := by decide +kernel
theorem dX12_spanLine_10 : decode cX12_spanLine 10 = .ok (.iconst 0, 1) := by decide +kernel
theorem dX12_spanLine_11 : decode cX12_spanLine 11 = .ok (.ireturn, 1) := by decide +kernel
theorem dX12_spanLine_12 : decode cX12_spanLine 12 = .ok (.aload_n 0, 1) := by decide +kernel
theorem dX12_spanLine_13 : decode cX12_spanLine 13 = .ok (.invokevirtual 148, 3) := by decide +kernel
theorem dX12_spanLine_16 : decode cX12_spanLine 16 = .ok (.aload_n 0, 1) := by decide +kernel
theorem dX12_spanLine_17 : decode cX12_spanLine 17 = .ok (.iconst 1, 1) := by decide +kernel
theorem dX12_spanLine_18 : decode cX12_spanLine 18 = .ok (.bipush 60, 2) := by decide +kernel
theorem dX12_spanLine_20 : decode cX12_spanLine 20 = .ok (.invokevirtual 179, 3) := by decide +kernel
theorem dX12_spanLine_23 : decode cX12_spanLine 23 = .ok (.ifCond .ne 5, 3) := by decide +kernel
theorem dX12_spanLine_26 : decode cX12_spanLine 26 = .ok (.iconst 0, 1) := by decide +kernel
theorem dX12_spanLine_27 : decode cX12_spanLine 27 = .ok (.ireturn, 1) := by decide +kernel
theorem dX12_spanLine_28 : decode cX12_spanLine 28 = .ok (.aload_n 0, 1) := by decide +kernel
theorem dX12_spanLine_29 : decode cX12_spanLine 29 = .ok (.getfield 151, 3) := by decide +kernel
theorem dX12_spanLine_32 : decode cX12_spanLine 32 = .ok (.istore_n 2, 1) := by decide +kernel
theorem dX12_spanLine_33 : decode cX12_spanLine 33 = .ok (.aload_n 0, 1) := by decide +kernel
theorem dX12_spanLine_34 : decode cX12_spanLine 34 = .ok (.iconst 0, 1) := by decide +kernel
theorem dX12_spanLine_35 : decode cX12_spanLine 35 = .ok (.bipush 9, 2) := by decide +kernel
theorem dX12_spanLine_37 : decode cX12_spanLine 37 = .ok (.invokevirtual 179, 3) := by decide +kernel
theorem dX12_spanLine_40 : decode cX12_spanLine 40 = .ok (.ifCond .ne 5, 3) := by decide +kernel
theorem dX12_spanLine_43 : decode cX12_spanLine 43 = .ok (.iconst 0, 1) := by decide +kernel
theorem dX12_spanLine_44 : decode cX12_spanLine 44 = .ok (.ireturn, 1) := by decide +kernel
theorem dX12_spanLine_45 : decode cX12_spanLine 45 = .ok (.aload_n 0, 1) := by decide +kernel
theorem dX12_spanLine_46 : decode cX12_spanLine 46 = .ok (.getfield 25, 3) := by decide +kernel
theorem dX12_spanLine_49 : decode cX12_spanLine 49 = .ok (.iload_n 1, 1) := by decide +kernel
theorem dX12_spanLine_50 : decode cX12_spanLine 50 = .ok (.iload_n 2, 1) := by decide +kernel
theorem dX12_spanLine_51 : decode cX12_spanLine 51 = .ok (.iastore, 1) := by decide +kernel
theorem dX12_spanLine_52 : decode cX12_spanLine 52 = .ok (.aload_n 0, 1) := by decide +kernel
theorem dX12_spanLine_53 : decode cX12_spanLine 53 = .ok (.getfield 25, 3) := by decide +kernel
theorem dX12_spanLine_56 : decode cX12_spanLine 56 = .ok (.iload_n 1, 1) := by decide +kernel
theorem dX12_spanLine_57 : decode cX12_spanLine 57 = .ok (.iconst 1, 1) := by decide +kernel
theorem dX12_spanLine_58 : decode cX12_spanLine 58 = .ok (.iadd, 1) := by decide +kernel
theorem dX12_spanLine_59 : decode cX12_spanLine 59 = .ok (.aload_n 0, 1) := by decide +kernel
theorem dX12_spanLine_60 : decode cX12_spanLine 60 = .ok (.getfield 151, 3) := by decide +kernel
theorem dX12_spanLine_63 : decode cX12_spanLine 63 = .ok (.iastore, 1) := by decide +kernel
theorem dX12_spanLine_64 : decode cX12_spanLine 64 = .ok (.aload_n 0, 1) := by decide +kernel
theorem dX12_spanLine_65 : decode cX12_spanLine 65 = .ok (.invokevirtual 183, 3) := by decide +kernel
theorem dX12_spanLine_68 : decode cX12_spanLine 68 = .ok (.ireturn, 1) := by decide +kernel
theorem dX12_oddsLine_0 : decode cX12_oddsLine 0 = .ok (.aload_n 0, 1) := by decide +kernel
theorem dX12_oddsLine_1 : decode cX12_oddsLine 1 = .ok (.getfield 186, 3) := by decide +kernel
theorem dX12_oddsLine_4 : decode cX12_oddsLine 4 = .ok (.iconst (-1), 1) := by decide +kernel
theorem dX12_oddsLine_5 : decode cX12_oddsLine 5 = .ok (.if_icmp .eq 5, 3) := by decide +kernel
theorem dX12_oddsLine_8 : decode cX12_oddsLine 8 = .ok (.iconst 0, 1) := by decide +kernel
theorem dX12_oddsLine_9 : decode cX12_oddsLine 9 = .ok (.ireturn, 1) := by decide +kernel
theorem dX12_oddsLine_10 : decode cX12_oddsLine 10 = .ok (.aload_n 0, 1) := by decide +kernel
theorem dX12_oddsLine_11 : decode cX12_oddsLine 11 = .ok (.invokevirtual 148, 3) := by decide +kernel
theorem dX12_oddsLine_14 : decode cX12_oddsLine 14 = .ok (.aload_n 0, 1) := by decide +kernel
theorem dX12_oddsLine_15 : decode cX12_oddsLine 15 = .ok (.iconst 0, 1) := by decide +kernel
theorem dX12_oddsLine_16 : decode cX12_oddsLine 16 = .ok (.bipush 16, 2) := by decide +kernel
theorem dX12_oddsLine_18 : decode cX12_oddsLine 18 = .ok (.invokevirtual 179, 3) := by decide +kernel
theorem dX12_oddsLine_21 : decode cX12_oddsLine 21 = .ok (.ifCond .ne 5, 3) := by decide +kernel
theorem dX12_oddsLine_24 : decode cX12_oddsLine 24 = .ok (.iconst 0, 1) := by decide +kernel
theorem dX12_oddsLine_25 : decode cX12_oddsLine 25 = .ok (.ireturn, 1) := by decide +kernel
theorem dX12_oddsLine_26 : decode cX12_oddsLine 26 = .ok (.aload_n 0, 1) := by decide +kernel
theorem dX12_oddsLine_27 : decode cX12_oddsLine 27 = .ok (.getfield 151, 3) := by decide +kernel
theorem dX12_oddsLine_30 : decode cX12_oddsLine 30 = .ok (.istore_n 1, 1) := by decide +kernel
theorem dX12_oddsLine_31 : decode cX12_oddsLine 31 = .ok (.aload_n 0, 1) := by decide +kernel
theorem dX12_oddsLine_32 : decode cX12_oddsLine 32 = .ok (.iconst 1, 1) := by decide +kernel
theorem dX12_oddsLine_33 : decode cX12_oddsLine 33 = .ok (.bipush 99, 2) := by decide +kernel
theorem dX12_oddsLine_35 : decode cX12_oddsLine 35 = .ok (.invokevirtual 179, 3) := by decide +kernel
theorem dX12_oddsLine_38 : decode cX12_oddsLine 38 = .ok (.ifCond .ne 5, 3) := by decide +kernel
theorem dX12_oddsLine_41 : decode cX12_oddsLine 41 = .ok (.iconst 0, 1) := by decide +kernel
theorem dX12_oddsLine_42 : decode cX12_oddsLine 42 = .ok (.ireturn, 1) := by decide +kernel
theorem dX12_oddsLine_43 : decode cX12_oddsLine 43 = .ok (.aload_n 0, 1) := by decide +kernel
theorem dX12_oddsLine_44 : decode cX12_oddsLine 44 = .ok (.iload_n 1, 1) := by decide +kernel
theorem dX12_oddsLine_45 : decode cX12_oddsLine 45 = .ok (.putfield 186, 3) := by decide +kernel
theorem dX12_oddsLine_48 : decode cX12_oddsLine 48 = .ok (.aload_n 0, 1) := by decide +kernel
theorem dX12_oddsLine_49 : decode cX12_oddsLine 49 = .ok (.aload_n 0, 1) := by decide +kernel
theorem dX12_oddsLine_50 : decode cX12_oddsLine 50 = .ok (.getfield 151, 3) := by decide +kernel
theorem dX12_oddsLine_53 : decode cX12_oddsLine 53 = .ok (.putfield 189, 3) := by decide +kernel
theorem dX12_oddsLine_56 : decode cX12_oddsLine 56 = .ok (.aload_n 0, 1) := by decide +kernel
theorem dX12_oddsLine_57 : decode cX12_oddsLine 57 = .ok (.invokevirtual 183, 3) := by decide +kernel
theorem dX12_oddsLine_60 : decode cX12_oddsLine 60 = .ok (.ireturn, 1) := by decide +kernel
theorem dX12_holdLine_0 : decode cX12_holdLine 0 = .ok (.aload_n 0, 1) := by decide +kernel
theorem dX12_holdLine_1 : decode cX12_holdLine 1 = .ok (.invokevirtual 148, 3) := by decide +kernel
theorem dX12_holdLine_4 : decode cX12_holdLine 4 = .ok (.aload_n 0, 1) := by decide +kernel
theorem dX12_holdLine_5 : decode cX12_holdLine 5 = .ok (.invokevirtual 176, 3) := by decide +kernel
theorem dX12_holdLine_8 : decode cX12_holdLine 8 = .ok (.istore_n 1, 1) := by decide +kernel
theorem dX12_holdLine_9 : decode cX12_holdLine 9 = .ok (.iload_n 1, 1) := by decide +kernel
theorem dX12_holdLine_10 : decode cX12_holdLine 10 = .ok (.iconst (-1), 1) := by decide +kernel
theorem dX12_holdLine_11 : decode cX12_holdLine 11 = .ok (.if_icmp .eq 12, 3) := by decide +kernel
theorem dX12_holdLine_14 : decode cX12_holdLine 14 = .ok (.aload_n 0, 1) := by decide +kernel
theorem dX12_holdLine_15 : decode cX12_holdLine 15 = .ok (.getfield 21, 3) := by decide +kernel
theorem dX12_holdLine_18 : decode cX12_holdLine 18 = .ok (.iload_n 1, 1) := by decide +kernel
theorem dX12_holdLine_19 : decode cX12_holdLine 19 = .ok (.baload, 1) := by decide +kernel
theorem dX12_holdLine_20 : decode cX12_holdLine 20 = .ok (.ifCond .eq 5, 3) := by decide +kernel
theorem dX12_holdLine_23 : decode cX12_holdLine 23 = .ok (.iconst 0, 1) := by decide +kernel
theorem dX12_holdLine_24 : decode cX12_holdLine 24 = .ok (.ireturn, 1) := by decide +kernel
theorem dX12_holdLine_25 : decode cX12_holdLine 25 = .ok (.aload_n 0, 1) := by decide +kernel
theorem dX12_holdLine_26 : decode cX12_holdLine 26 = .ok (.invokevirtual 148, 3) := by decide +kernel
theorem dX12_holdLine_29 : decode cX12_holdLine 29 = .ok (.aload_n 0, 1) := by decide +kernel
theorem dX12_holdLine_30 : decode cX12_holdLine 30 = .ok (.iconst 1, 1) := by decide +kernel
theorem dX12_holdLine_31 : decode cX12_holdLine 31 = .ok (.bipush 9, 2) := by decide +kernel
theorem dX12_holdLine_33 : decode cX12_holdLine 33 = .ok (.invokevirtual 179, 3) := by decide +kernel
theorem dX12_holdLine_36 : decode cX12_holdLine 36 = .ok (.ifCond .ne 5, 3) := by decide +kernel
theorem dX12_holdLine_39 : decode cX12_holdLine 39 = .ok (.iconst 0, 1) := by decide +kernel
theorem dX12_holdLine_40 : decode cX12_holdLine 40 = .ok (.ireturn, 1) := by decide +kernel
theorem dX12_holdLine_41 : decode cX12_holdLine 41 = .ok (.aload_n 0, 1) := by decide +kernel
theorem dX12_holdLine_42 : decode cX12_holdLine 42 = .ok (.getfield 17, 3) := by decide +kernel
theorem dX12_holdLine_45 : decode cX12_holdLine 45 = .ok (.iconst 3, 1) := by decide +kernel
theorem dX12_holdLine_46 : decode cX12_holdLine 46 = .ok (.iload_n 1, 1) := by decide +kernel
theorem dX12_holdLine_47 : decode cX12_holdLine 47 = .ok (.imul, 1) := by decide +kernel
theorem dX12_holdLine_48 : decode cX12_holdLine 48 = .ok (.iconst 2, 1) := by decide +kernel
theorem dX12_holdLine_49 : decode cX12_holdLine 49 = .ok (.iadd, 1) := by decide +kernel
theorem dX12_holdLine_50 : decode cX12_holdLine 50 = .ok (.aload_n 0, 1) := by decide +kernel
theorem dX12_holdLine_51 : decode cX12_holdLine 51 = .ok (.getfield 151, 3) := by decide +kernel
theorem dX12_holdLine_54 : decode cX12_holdLine 54 = .ok (.iastore, 1) := by decide +kernel
theorem dX12_holdLine_55 : decode cX12_holdLine 55 = .ok (.aload_n 0, 1) := by decide +kernel
theorem dX12_holdLine_56 : decode cX12_holdLine 56 = .ok (.getfield 21, 3) := by decide +kernel
theorem dX12_holdLine_59 : decode cX12_holdLine 59 = .ok (.iload_n 1, 1) := by decide +kernel
theorem dX12_holdLine_60 : decode cX12_holdLine 60 = .ok (.iconst 1, 1) := by decide +kernel
theorem dX12_holdLine_61 : decode cX12_holdLine 61 = .ok (.bastore, 1) := by decide +kernel
theorem dX12_holdLine_62 : decode cX12_holdLine 62 = .ok (.aload_n 0, 1) := by decide +kernel
theorem dX12_holdLine_63 : decode cX12_holdLine 63 = .ok (.invokevirtual 183, 3) := by decide +kernel
theorem dX12_holdLine_66 : decode cX12_holdLine 66 = .ok (.ireturn, 1) := by decide +kernel
theorem dX12_learnLine_0 : decode cX12_learnLine 0 = .ok (.aload_n 0, 1) := by decide +kernel
theorem dX12_learnLine_1 : decode cX12_learnLine 1 = .ok (.getfield 192, 3) := by decide +kernel
theorem dX12_learnLine_4 : decode cX12_learnLine 4 = .ok (.bipush 12, 2) := by decide +kernel
theorem dX12_learnLine_6 : decode cX12_learnLine 6 = .ok (.if_icmp .ne 5, 3) := by decide +kernel
theorem dX12_learnLine_9 : decode cX12_learnLine 9 = .ok (.iconst 0, 1) := by decide +kernel
theorem dX12_learnLine_10 : decode cX12_learnLine 10 = .ok (.ireturn, 1) := by decide +kernel
theorem dX12_learnLine_11 : decode cX12_learnLine 11 = .ok (.iconst 3, 1) := by decide +kernel
theorem dX12_learnLine_12 : decode cX12_learnLine 12 = .ok (.aload_n 0, 1) := by decide +kernel
theorem dX12_learnLine_13 : decode cX12_learnLine 13 = .ok (.getfield 192, 3) := by decide +kernel
theorem dX12_learnLine_16 : decode cX12_learnLine 16 = .ok (.imul, 1) := by decide +kernel
theorem dX12_learnLine_17 : decode cX12_learnLine 17 = .ok (.istore_n 1, 1) := by decide +kernel
theorem dX12_learnLine_18 : decode cX12_learnLine 18 = .ok (.iconst 0, 1) := by decide +kernel
theorem dX12_learnLine_19 : decode cX12_learnLine 19 = .ok (.istore_n 2, 1) := by decide +kernel
theorem dX12_learnLine_20 : decode cX12_learnLine 20 = .ok (.iload_n 2, 1) := by decide +kernel
theorem dX12_learnLine_21 : decode cX12_learnLine 21 = .ok (.iconst 3, 1) := by decide +kernel
theorem dX12_learnLine_22 : decode cX12_learnLine 22 = .ok (.if_icmp .ge 100, 3) := by decide +kernel
theorem dX12_learnLine_25 : decode cX12_learnLine 25 = .ok (.aload_n 0, 1) := by decide +kernel
theorem dX12_learnLine_26 : decode cX12_learnLine 26 = .ok (.invokevirtual 148, 3) := by decide +kernel
theorem dX12_learnLine_29 : decode cX12_learnLine 29 = .ok (.aload_n 0, 1) := by decide +kernel
theorem dX12_learnLine_30 : decode cX12_learnLine 30 = .ok (.getfield 28, 3) := by decide +kernel
theorem dX12_learnLine_33 : decode cX12_learnLine 33 = .ok (.iload_n 1, 1) := by decide +kernel
theorem dX12_learnLine_34 : decode cX12_learnLine 34 = .ok (.iload_n 2, 1) := by decide +kernel
theorem dX12_learnLine_35 : decode cX12_learnLine 35 = .ok (.iadd, 1) := by decide +kernel
theorem dX12_learnLine_36 : decode cX12_learnLine 36 = .ok (.aload_n 0, 1) := by decide +kernel
theorem dX12_learnLine_37 : decode cX12_learnLine 37 = .ok (.invokevirtual 176, 3) := by decide +kernel
theorem dX12_learnLine_40 : decode cX12_learnLine 40 = .ok (.iastore, 1) := by decide +kernel
theorem dX12_learnLine_41 : decode cX12_learnLine 41 = .ok (.aload_n 0, 1) := by decide +kernel
theorem dX12_learnLine_42 : decode cX12_learnLine 42 = .ok (.getfield 28, 3) := by decide +kernel
theorem dX12_learnLine_45 : decode cX12_learnLine 45 = .ok (.iload_n 1, 1) := by decide +kernel
theorem dX12_learnLine_46 : decode cX12_learnLine 46 = .ok (.iload_n 2, 1) := by decide +kernel
theorem dX12_learnLine_47 : decode cX12_learnLine 47 = .ok (.iadd, 1) := by decide +kernel
theorem dX12_learnLine_48 : decode cX12_learnLine 48 = .ok (.iaload, 1) := by decide +kernel
theorem dX12_learnLine_49 : decode cX12_learnLine 49 = .ok (.iconst (-1), 1) := by decide +kernel
theorem dX12_learnLine_50 : decode cX12_learnLine 50 = .ok (.if_icmp .ne 5, 3) := by decide +kernel
theorem dX12_learnLine_53 : decode cX12_learnLine 53 = .ok (.iconst 0, 1) := by decide +kernel
theorem dX12_learnLine_54 : decode cX12_learnLine 54 = .ok (.ireturn, 1) := by decide +kernel
theorem dX12_learnLine_55 : decode cX12_learnLine 55 = .ok (.iconst 0, 1) := by decide +kernel
theorem dX12_learnLine_56 : decode cX12_learnLine 56 = .ok (.istore_n 3, 1) := by decide +kernel
theorem dX12_learnLine_57 : decode cX12_learnLine 57 = .ok (.iload_n 3, 1) := by decide +kernel
theorem dX12_learnLine_58 : decode cX12_learnLine 58 = .ok (.aload_n 0, 1) := by decide +kernel
theorem dX12_learnLine_59 : decode cX12_learnLine 59 = .ok (.getfield 192, 3) := by decide +kernel
theorem dX12_learnLine_62 : decode cX12_learnLine 62 = .ok (.if_icmp .ge 54, 3) := by decide +kernel
theorem dX12_learnLine_65 : decode cX12_learnLine 65 = .ok (.iload_n 2, 1) := by decide +kernel
theorem dX12_learnLine_66 : decode cX12_learnLine 66 = .ok (.iconst 1, 1) := by decide +kernel
theorem dX12_learnLine_67 : decode cX12_learnLine 67 = .ok (.if_icmp .ne 49, 3) := by decide +kernel
theorem dX12_learnLine_70 : decode cX12_learnLine 70 = .ok (.aload_n 0, 1) := by decide +kernel
theorem dX12_learnLine_71 : decode cX12_learnLine 71 = .ok (.getfield 28, 3) := by decide +kernel
theorem dX12_learnLine_74 : decode cX12_learnLine 74 = .ok (.iconst 3, 1) := by decide +kernel
theorem dX12_learnLine_75 : decode cX12_learnLine 75 = .ok (.iload_n 3, 1) := by decide +kernel
theorem dX12_learnLine_76 : decode cX12_learnLine 76 = .ok (.imul, 1) := by decide +kernel
theorem dX12_learnLine_77 : decode cX12_learnLine 77 = .ok (.iaload, 1) := by decide +kernel
theorem dX12_learnLine_78 : decode cX12_learnLine 78 = .ok (.aload_n 0, 1) := by decide +kernel
theorem dX12_learnLine_79 : decode cX12_learnLine 79 = .ok (.getfield 28, 3) := by decide +kernel
theorem dX12_learnLine_82 : decode cX12_learnLine 82 = .ok (.iload_n 1, 1) := by decide +kernel
theorem dX12_learnLine_83 : decode cX12_learnLine 83 = .ok (.iaload, 1) := by decide +kernel
theorem dX12_learnLine_84 : decode cX12_learnLine 84 = .ok (.if_icmp .ne 26, 3) := by decide +kernel
theorem dX12_learnLine_87 : decode cX12_learnLine 87 = .ok (.aload_n 0, 1) := by decide +kernel
theorem dX12_learnLine_88 : decode cX12_learnLine 88 = .ok (.getfield 28, 3) := by decide +kernel
theorem dX12_learnLine_91 : decode cX12_learnLine 91 = .ok (.iconst 3, 1) := by decide +kernel
theorem dX12_learnLine_92 : decode cX12_learnLine 92 = .ok (.iload_n 3, 1) := by decide +kernel
theorem dX12_learnLine_93 : decode cX12_learnLine 93 = .ok (.imul, 1) := by decide +kernel
theorem dX12_learnLine_94 : decode cX12_learnLine 94 = .ok (.iconst 1, 1) := by decide +kernel
theorem dX12_learnLine_95 : decode cX12_learnLine 95 = .ok (.iadd, 1) := by decide +kernel
theorem dX12_learnLine_96 : decode cX12_learnLine 96 = .ok (.iaload, 1) := by decide +kernel
theorem dX12_learnLine_97 : decode cX12_learnLine 97 = .ok (.aload_n 0, 1) := by decide +kernel
theorem dX12_learnLine_98 : decode cX12_learnLine 98 = .ok (.getfield 28, 3) := by decide +kernel
theorem dX12_learnLine_101 : decode cX12_learnLine 101 = .ok (.iload_n 1, 1) := by decide +kernel
theorem dX12_learnLine_102 : decode cX12_learnLine 102 = .ok (.iconst 1, 1) := by decide +kernel
theorem dX12_learnLine_103 : decode cX12_learnLine 103 = .ok (.iadd, 1) := by decide +kernel
theorem dX12_learnLine_104 : decode cX12_learnLine 104 = .ok (.iaload, 1) := by decide +kernel
theorem dX12_learnLine_105 : decode cX12_learnLine 105 = .ok (.if_icmp .ne 5, 3) := by decide +kernel
theorem dX12_learnLine_108 : decode cX12_learnLine 108 = .ok (.iconst 0, 1) := by decide +kernel
theorem dX12_learnLine_109 : decode cX12_learnLine 109 = .ok (.ireturn, 1) := by decide +kernel
theorem dX12_learnLine_110 : decode cX12_learnLine 110 = .ok (.iinc 3 1, 3) := by decide +kernel
theorem dX12_learnLine_113 : decode cX12_learnLine 113 = .ok (.goto (-56), 3) := by decide +kernel
theorem dX12_learnLine_116 : decode cX12_learnLine 116 = .ok (.iinc 2 1, 3) := by decide +kernel
theorem dX12_learnLine_119 : decode cX12_learnLine 119 = .ok (.goto (-99), 3) := by decide +kernel
theorem dX12_learnLine_122 : decode cX12_learnLine 122 = .ok (.aload_n 0, 1) := by decide +kernel
theorem dX12_learnLine_123 : decode cX12_learnLine 123 = .ok (.invokevirtual 148, 3) := by decide +kernel
theorem dX12_learnLine_126 : decode cX12_learnLine 126 = .ok (.aload_n 0, 1) := by decide +kernel
theorem dX12_learnLine_127 : decode cX12_learnLine 127 = .ok (.dup, 1) := by decide +kernel
theorem dX12_learnLine_128 : decode cX12_learnLine 128 = .ok (.getfield 192, 3) := by decide +kernel
theorem dX12_learnLine_131 : decode cX12_learnLine 131 = .ok (.iconst 1, 1) := by decide +kernel
theorem dX12_learnLine_132 : decode cX12_learnLine 132 = .ok (.iadd, 1) := by decide +kernel
theorem dX12_learnLine_133 : decode cX12_learnLine 133 = .ok (.putfield 192, 3) := by decide +kernel
theorem dX12_learnLine_136 : decode cX12_learnLine 136 = .ok (.aload_n 0, 1) := by decide +kernel
theorem dX12_learnLine_137 : decode cX12_learnLine 137 = .ok (.invokevirtual 183, 3) := by decide +kernel
theorem dX12_learnLine_140 : decode cX12_learnLine 140 = .ok (.ireturn, 1) := by decide +kernel
theorem dX12_sceneLine_0 : decode cX12_sceneLine 0 = .ok (.aload_n 0, 1) := by decide +kernel
theorem dX12_sceneLine_1 : decode cX12_sceneLine 1 = .ok (.ldc 154, 2) := by decide +kernel
theorem dX12_sceneLine_3 : decode cX12_sceneLine 3 = .ok (.invokevirtual 156, 3) := by decide +kernel
theorem dX12_sceneLine_6 : decode cX12_sceneLine 6 = .ok (.ifCond .eq 8, 3) := by decide +kernel
theorem dX12_sceneLine_9 : decode cX12_sceneLine 9 = .ok (.aload_n 0, 1) := by decide +kernel
theorem dX12_sceneLine_10 : decode cX12_sceneLine 10 = .ok (.invokevirtual 195, 3) := by decide +kernel
theorem dX12_sceneLine_13 : decode cX12_sceneLine 13 = .ok (.ireturn, 1) := by decide +kernel
theorem dX12_sceneLine_14 : decode cX12_sceneLine 14 = .ok (.aload_n 0, 1) := by decide +kernel
theorem dX12_sceneLine_15 : decode cX12_sceneLine 15 = .ok (.ldc 160, 2) := by decide +kernel
theorem dX12_sceneLine_17 : decode cX12_sceneLine 17 = .ok (.invokevirtual 156, 3) := by decide +kernel
theorem dX12_sceneLine_20 : decode cX12_sceneLine 20 = .ok (.ifCond .eq 9, 3) := by decide +kernel
theorem dX12_sceneLine_23 : decode cX12_sceneLine 23 = .ok (.aload_n 0, 1) := by decide +kernel
theorem dX12_sceneLine_24 : decode cX12_sceneLine 24 = .ok (.iconst 0, 1) := by decide +kernel
theorem dX12_sceneLine_25 : decode cX12_sceneLine 25 = .ok (.invokevirtual 198, 3) := by decide +kernel
theorem dX12_sceneLine_28 : decode cX12_sceneLine 28 = .ok (.ireturn, 1) := by decide +kernel
theorem dX12_sceneLine_29 : decode cX12_sceneLine 29 = .ok (.aload_n 0, 1) := by decide +kernel
theorem dX12_sceneLine_30 : decode cX12_sceneLine 30 = .ok (.ldc 162, 2) := by decide +kernel
theorem dX12_sceneLine_32 : decode cX12_sceneLine 32 = .ok (.invokevirtual 156, 3) := by decide +kernel
theorem dX12_sceneLine_35 : decode cX12_sceneLine 35 = .ok (.ifCond .eq 9, 3) := by decide +kernel
theorem dX12_sceneLine_38 : decode cX12_sceneLine 38 = .ok (.aload_n 0, 1) := by decide +kernel
theorem dX12_sceneLine_39 : decode cX12_sceneLine 39 = .ok (.iconst 2, 1) := by decide +kernel
theorem dX12_sceneLine_40 : decode cX12_sceneLine 40 = .ok (.invokevirtual 198, 3) := by decide +kernel
theorem dX12_sceneLine_43 : decode cX12_sceneLine 43 = .ok (.ireturn, 1) := by decide +kernel
theorem dX12_sceneLine_44 : decode cX12_sceneLine 44 = .ok (.aload_n 0, 1) := by decide +kernel
theorem dX12_sceneLine_45 : decode cX12_sceneLine 45 = .ok (.ldc 164, 2) := by decide +kernel
theorem dX12_sceneLine_47 : decode cX12_sceneLine 47 = .ok (.invokevirtual 156, 3) := by decide +kernel
theorem dX12_sceneLine_50 : decode cX12_sceneLine 50 = .ok (.ifCond .eq 8, 3) := by decide +kernel
theorem dX12_sceneLine_53 : decode cX12_sceneLine 53 = .ok (.aload_n 0, 1) := by decide +kernel
theorem dX12_sceneLine_54 : decode cX12_sceneLine 54 = .ok (.invokevirtual 201, 3) := by decide +kernel
theorem dX12_sceneLine_57 : decode cX12_sceneLine 57 = .ok (.ireturn, 1) := by decide +kernel
theorem dX12_sceneLine_58 : decode cX12_sceneLine 58 = .ok (.aload_n 0, 1) := by decide +kernel
theorem dX12_sceneLine_59 : decode cX12_sceneLine 59 = .ok (.ldc 166, 2) := by decide +kernel
theorem dX12_sceneLine_61 : decode cX12_sceneLine 61 = .ok (.invokevirtual 156, 3) := by decide +kernel
theorem dX12_sceneLine_64 : decode cX12_sceneLine 64 = .ok (.ifCond .eq 8, 3) := by decide +kernel
theorem dX12_sceneLine_67 : decode cX12_sceneLine 67 = .ok (.aload_n 0, 1) := by decide +kernel
theorem dX12_sceneLine_68 : decode cX12_sceneLine 68 = .ok (.invokevirtual 204, 3) := by decide +kernel
theorem dX12_sceneLine_71 : decode cX12_sceneLine 71 = .ok (.ireturn, 1) := by decide +kernel
theorem dX12_sceneLine_72 : decode cX12_sceneLine 72 = .ok (.aload_n 0, 1) := by decide +kernel
theorem dX12_sceneLine_73 : decode cX12_sceneLine 73 = .ok (.ldc 168, 2) := by decide +kernel
theorem dX12_sceneLine_75 : decode cX12_sceneLine 75 = .ok (.invokevirtual 156, 3) := by decide +kernel
theorem dX12_sceneLine_78 : decode cX12_sceneLine 78 = .ok (.ifCond .eq 14, 3) := by decide +kernel
theorem dX12_sceneLine_81 : decode cX12_sceneLine 81 = .ok (.aload_n 0, 1) := by decide +kernel
theorem dX12_sceneLine_82 : decode cX12_sceneLine 82 = .ok (.invokevirtual 207, 3) := by decide +kernel
theorem dX12_sceneLine_85 : decode cX12_sceneLine 85 = .ok (.ifCond .eq 7, 3) := by decide +kernel
theorem dX12_sceneLine_88 : decode cX12_sceneLine 88 = .ok (.iconst 1, 1) := by decide +kernel
theorem dX12_sceneLine_89 : decode cX12_sceneLine 89 = .ok (.goto 4, 3) := by decide +kernel
theorem dX12_sceneLine_92 : decode cX12_sceneLine 92 = .ok (.iconst 0, 1) := by decide +kernel
theorem dX12_sceneLine_93 : decode cX12_sceneLine 93 = .ok (.ireturn, 1) := by decide +kernel
theorem dX12_sceneFault_0 : decode cX12_sceneFault 0 = .ok (.aload_n 0, 1) := by decide +kernel
theorem dX12_sceneFault_1 : decode cX12_sceneFault 1 = .ok (.iconst 0, 1) := by decide +kernel
theorem dX12_sceneFault_2 : decode cX12_sceneFault 2 = .ok (.putfield 169, 3) := by decide +kernel
theorem dX12_sceneFault_5 : decode cX12_sceneFault 5 = .ok (.aload_n 0, 1) := by decide +kernel
theorem dX12_sceneFault_6 : decode cX12_sceneFault 6 = .ok (.iconst 0, 1) := by decide +kernel
theorem dX12_sceneFault_7 : decode cX12_sceneFault 7 = .ok (.putfield 192, 3) := by decide +kernel
theorem dX12_sceneFault_10 : decode cX12_sceneFault 10 = .ok (.aload_n 0, 1) := by decide +kernel
theorem dX12_sceneFault_11 : decode cX12_sceneFault 11 = .ok (.getfield 25, 3) := by decide +kernel
theorem dX12_sceneFault_14 : decode cX12_sceneFault 14 = .ok (.iconst 0, 1) := by decide +kernel
theorem dX12_sceneFault_15 : decode cX12_sceneFault 15 = .ok (.iconst (-1), 1) := by decide +kernel
theorem dX12_sceneFault_16 : decode cX12_sceneFault 16 = .ok (.iastore, 1) := by decide +kernel
theorem dX12_sceneFault_17 : decode cX12_sceneFault 17 = .ok (.aload_n 0, 1) := by decide +kernel
theorem dX12_sceneFault_18 : decode cX12_sceneFault 18 = .ok (.getfield 25, 3) := by decide +kernel
theorem dX12_sceneFault_21 : decode cX12_sceneFault 21 = .ok (.iconst 2, 1) := by decide +kernel
theorem dX12_sceneFault_22 : decode cX12_sceneFault 22 = .ok (.iconst (-1), 1) := by decide +kernel
theorem dX12_sceneFault_23 : decode cX12_sceneFault 23 = .ok (.iastore, 1) := by decide +kernel
theorem dX12_sceneFault_24 : decode cX12_sceneFault 24 = .ok (.aload_n 0, 1) := by decide +kernel
theorem dX12_sceneFault_25 : decode cX12_sceneFault 25 = .ok (.iconst (-1), 1) := by decide +kernel
theorem dX12_sceneFault_26 : decode cX12_sceneFault 26 = .ok (.putfield 186, 3) := by decide +kernel
theorem dX12_sceneFault_29 : decode cX12_sceneFault 29 = .ok (.aload_n 0, 1) := by decide +kernel
theorem dX12_sceneFault_30 : decode cX12_sceneFault 30 = .ok (.iconst 0, 1) := by decide +kernel
theorem dX12_sceneFault_31 : decode cX12_sceneFault 31 = .ok (.putfield 102, 3) := by decide +kernel
theorem dX12_sceneFault_34 : decode cX12_sceneFault 34 = .ok (.aload_n 0, 1) := by decide +kernel
theorem dX12_sceneFault_35 : decode cX12_sceneFault 35 = .ok (.invokevirtual 148, 3) := by decide +kernel
theorem dX12_sceneFault_38 : decode cX12_sceneFault 38 = .ok (.aload_n 0, 1) := by decide +kernel
theorem dX12_sceneFault_39 : decode cX12_sceneFault 39 = .ok (.getfield 112, 3) := by decide +kernel
theorem dX12_sceneFault_42 : decode cX12_sceneFault 42 = .ok (.ifCond .eq 15, 3) := by decide +kernel
theorem dX12_sceneFault_45 : decode cX12_sceneFault 45 = .ok (.aload_n 0, 1) := by decide +kernel
theorem dX12_sceneFault_46 : decode cX12_sceneFault 46 = .ok (.invokevirtual 210, 3) := by decide +kernel
theorem dX12_sceneFault_49 : decode cX12_sceneFault 49 = .ok (.ifCond .ne (-11), 3) := by decide +kernel
theorem dX12_sceneFault_52 : decode cX12_sceneFault 52 = .ok (.aload_n 0, 1) := by decide +kernel
theorem dX12_sceneFault_53 : decode cX12_sceneFault 53 = .ok (.getfield 105, 3) := by decide +kernel
theorem dX12_sceneFault_56 : decode cX12_sceneFault 56 = .ok (.ireturn, 1) := by decide +kernel
theorem dX12_sceneFault_57 : decode cX12_sceneFault 57 = .ok (.aload_n 0, 1) := by decide +kernel
theorem dX12_sceneFault_58 : decode cX12_sceneFault 58 = .ok (.getfield 169, 3) := by decide +kernel
theorem dX12_sceneFault_61 : decode cX12_sceneFault 61 = .ok (.iconst 2, 1) := by decide +kernel
theorem dX12_sceneFault_62 : decode cX12_sceneFault 62 = .ok (.if_icmp .lt 23, 3) := by decide +kernel
theorem dX12_sceneFault_65 : decode cX12_sceneFault 65 = .ok (.aload_n 0, 1) := by decide +kernel
theorem dX12_sceneFault_66 : decode cX12_sceneFault 66 = .ok (.getfield 25, 3) := by decide +kernel
theorem dX12_sceneFault_69 : decode cX12_sceneFault 69 = .ok (.iconst 0, 1) := by decide +kernel
theorem dX12_sceneFault_70 : decode cX12_sceneFault 70 = .ok (.iaload, 1) := by decide +kernel
theorem dX12_sceneFault_71 : decode cX12_sceneFault 71 = .ok (.iconst (-1), 1) := by decide +kernel
theorem dX12_sceneFault_72 : decode cX12_sceneFault 72 = .ok (.if_icmp .eq 13, 3) := by decide +kernel
theorem dX12_sceneFault_75 : decode cX12_sceneFault 75 = .ok (.aload_n 0, 1) := by decide +kernel
theorem dX12_sceneFault_76 : decode cX12_sceneFault 76 = .ok (.getfield 25, 3) := by decide +kernel
theorem dX12_sceneFault_79 : decode cX12_sceneFault 79 = .ok (.iconst 2, 1) := by decide +kernel
theorem dX12_sceneFault_80 : decode cX12_sceneFault 80 = .ok (.iaload, 1) := by decide +kernel
theorem dX12_sceneFault_81 : decode cX12_sceneFault 81 = .ok (.iconst (-1), 1) := by decide +kernel
theorem dX12_sceneFault_82 : decode cX12_sceneFault 82 = .ok (.if_icmp .ne 10, 3) := by decide +kernel
theorem dX12_sceneFault_85 : decode cX12_sceneFault 85 = .ok (.aload_n 0, 1) := by decide +kernel
theorem dX12_sceneFault_86 : decode cX12_sceneFault 86 = .ok (.getfield 105, 3) := by decide +kernel
theorem dX12_sceneFault_89 : decode cX12_sceneFault 89 = .ok (.goto 4, 3) := by decide +kernel
theorem dX12_sceneFault_92 : decode cX12_sceneFault 92 = .ok (.iconst (-1), 1) := by decide +kernel
theorem dX12_sceneFault_93 : decode cX12_sceneFault 93 = .ok (.ireturn, 1) := by decide +kernel
theorem dX12_scene_0 : decode cX12_scene 0 = .ok (.aload_n 0, 1) := by decide +kernel
theorem dX12_scene_1 : decode cX12_scene 1 = .ok (.invokevirtual 213, 3) := by decide +kernel
theorem dX12_scene_4 : decode cX12_scene 4 = .ok (.iconst (-1), 1) := by decide +kernel
theorem dX12_scene_5 : decode cX12_scene 5 = .ok (.if_icmp .eq 5, 3) := by decide +kernel
theorem dX12_scene_8 : decode cX12_scene 8 = .ok (.iconst (-1), 1) := by decide +kernel
theorem dX12_scene_9 : decode cX12_scene 9 = .ok (.ireturn, 1) := by decide +kernel
theorem dX12_scene_10 : decode cX12_scene 10 = .ok (.aload_n 0, 1) := by decide +kernel
theorem dX12_scene_11 : decode cX12_scene 11 = .ok (.iconst 1, 1) := by decide +kernel
theorem dX12_scene_12 : decode cX12_scene 12 = .ok (.putfield 216, 3) := by decide +kernel
theorem dX12_scene_15 : decode cX12_scene 15 = .ok (.aload_n 0, 1) := by decide +kernel
theorem dX12_scene_16 : decode cX12_scene 16 = .ok (.aload_n 0, 1) := by decide +kernel
theorem dX12_scene_17 : decode cX12_scene 17 = .ok (.getfield 169, 3) := by decide +kernel
theorem dX12_scene_20 : decode cX12_scene 20 = .ok (.putfield 220, 3) := by decide +kernel
theorem dX12_scene_23 : decode cX12_scene 23 = .ok (.aload_n 0, 1) := by decide +kernel
theorem dX12_scene_24 : decode cX12_scene 24 = .ok (.aload_n 0, 1) := by decide +kernel
theorem dX12_scene_25 : decode cX12_scene 25 = .ok (.getfield 192, 3) := by decide +kernel
theorem dX12_scene_28 : decode cX12_scene 28 = .ok (.putfield 223, 3) := by decide +kernel
theorem dX12_scene_31 : decode cX12_scene 31 = .ok (.iconst 0, 1) := by decide +kernel
theorem dX12_scene_32 : decode cX12_scene 32 = .ok (.istore_n 1, 1) := by decide +kernel
theorem dX12_scene_33 : decode cX12_scene 33 = .ok (.iload_n 1, 1) := by decide +kernel
theorem dX12_scene_34 : decode cX12_scene 34 = .ok (.bipush 27, 2) := by decide +kernel
theorem dX12_scene_36 : decode cX12_scene 36 = .ok (.if_icmp .ge 21, 3) := by decide +kernel
theorem dX12_scene_39 : decode cX12_scene 39 = .ok (.aload_n 0, 1) := by decide +kernel
theorem dX12_scene_40 : decode cX12_scene 40 = .ok (.getfield 31, 3) := by decide +kernel
theorem dX12_scene_43 : decode cX12_scene 43 = .ok (.iload_n 1, 1) := by decide +kernel
theorem dX12_scene_44 : decode cX12_scene 44 = .ok (.aload_n 0, 1) := by decide +kernel
theorem dX12_scene_45 : decode cX12_scene 45 = .ok (.getfield 17, 3) := by decide +kernel
theorem dX12_scene_48 : decode cX12_scene 48 = .ok (.iload_n 1, 1) := by decide +kernel
theorem dX12_scene_49 : decode cX12_scene 49 = .ok (.iaload, 1) := by decide +kernel
theorem dX12_scene_50 : decode cX12_scene 50 = .ok (.iastore, 1) := by decide +kernel
theorem dX12_scene_51 : decode cX12_scene 51 = .ok (.iinc 1 1, 3) := by decide +kernel
theorem dX12_scene_54 : decode cX12_scene 54 = .ok (.goto (-21), 3) := by decide +kernel
theorem dX12_scene_57 : decode cX12_scene 57 = .ok (.iconst 0, 1) := by decide +kernel
theorem dX12_scene_58 : decode cX12_scene 58 = .ok (.istore_n 1, 1) := by decide +kernel
theorem dX12_scene_59 : decode cX12_scene 59 = .ok (.iload_n 1, 1) := by decide +kernel
theorem dX12_scene_60 : decode cX12_scene 60 = .ok (.iconst 4, 1) := by decide +kernel
theorem dX12_scene_61 : decode cX12_scene 61 = .ok (.if_icmp .ge 21, 3) := by decide +kernel
theorem dX12_scene_64 : decode cX12_scene 64 = .ok (.aload_n 0, 1) := by decide +kernel
theorem dX12_scene_65 : decode cX12_scene 65 = .ok (.getfield 34, 3) := by decide +kernel
theorem dX12_scene_68 : decode cX12_scene 68 = .ok (.iload_n 1, 1) := by decide +kernel
theorem dX12_scene_69 : decode cX12_scene 69 = .ok (.aload_n 0, 1) := by decide +kernel
theorem dX12_scene_70 : decode cX12_scene 70 = .ok (.getfield 25, 3) := by decide +kernel
theorem dX12_scene_73 : decode cX12_scene 73 = .ok (.iload_n 1, 1) := by decide +kernel
theorem dX12_scene_74 : decode cX12_scene 74 = .ok (.iaload, 1) := by decide +kernel
theorem dX12_scene_75 : decode cX12_scene 75 = .ok (.iastore, 1) := by decide +kernel
theorem dX12_scene_76 : decode cX12_scene 76 = .ok (.iinc 1 1, 3) := by decide +kernel
theorem dX12_scene_79 : decode cX12_scene 79 = .ok (.goto (-20), 3) := by decide +kernel
theorem dX12_scene_82 : decode cX12_scene 82 = .ok (.iconst 0, 1) := by decide +kernel
theorem dX12_scene_83 : decode cX12_scene 83 = .ok (.istore_n 1, 1) := by decide +kernel
theorem dX12_scene_84 : decode cX12_scene 84 = .ok (.iload_n 1, 1) := by decide +kernel
theorem dX12_scene_85 : decode cX12_scene 85 = .ok (.bipush 36, 2) := by decide +kernel
theorem dX12_scene_87 : decode cX12_scene 87 = .ok (.if_icmp .ge 21, 3) := by decide +kernel
theorem dX12_scene_90 : decode cX12_scene 90 = .ok (.aload_n 0, 1) := by decide +kernel
theorem dX12_scene_91 : decode cX12_scene 91 = .ok (.getfield 37, 3) := by decide +kernel
theorem dX12_scene_94 : decode cX12_scene 94 = .ok (.iload_n 1, 1) := by decide +kernel
theorem dX12_scene_95 : decode cX12_scene 95 = .ok (.aload_n 0, 1) := by decide +kernel
theorem dX12_scene_96 : decode cX12_scene 96 = .ok (.getfield 28, 3) := by decide +kernel
theorem dX12_scene_99 : decode cX12_scene 99 = .ok (.iload_n 1, 1) := by decide +kernel
theorem dX12_scene_100 : decode cX12_scene 100 = .ok (.iaload, 1) := by decide +kernel
theorem dX12_scene_101 : decode cX12_scene 101 = .ok (.iastore, 1) := by decide +kernel
theorem dX12_scene_102 : decode cX12_scene 102 = .ok (.iinc 1 1, 3) := by decide +kernel
theorem dX12_scene_105 : decode cX12_scene 105 = .ok (.goto (-21), 3) := by decide +kernel
theorem dX12_scene_108 : decode cX12_scene 108 = .ok (.aload_n 0, 1) := by decide +kernel
theorem dX12_scene_109 : decode cX12_scene 109 = .ok (.aload_n 0, 1) := by decide +kernel
theorem dX12_scene_110 : decode cX12_scene 110 = .ok (.getfield 186, 3) := by decide +kernel
theorem dX12_scene_113 : decode cX12_scene 113 = .ok (.iconst (-1), 1) := by decide +kernel
theorem dX12_scene_114 : decode cX12_scene 114 = .ok (.if_icmp .ne 8, 3) := by decide +kernel
theorem dX12_scene_117 : decode cX12_scene 117 = .ok (.bipush 16, 2) := by decide +kernel
theorem dX12_scene_119 : decode cX12_scene 119 = .ok (.goto 7, 3) := by decide +kernel
theorem dX12_scene_122 : decode cX12_scene 122 = .ok (.aload_n 0, 1) := by decide +kernel
theorem dX12_scene_123 : decode cX12_scene 123 = .ok (.getfield 186, 3) := by decide +kernel
theorem dX12_scene_126 : decode cX12_scene 126 = .ok (.putfield 226, 3) := by decide +kernel
theorem dX12_scene_129 : decode cX12_scene 129 = .ok (.aload_n 0, 1) := by decide +kernel
theorem dX12_scene_130 : decode cX12_scene 130 = .ok (.aload_n 0, 1) := by decide +kernel
theorem dX12_scene_131 : decode cX12_scene 131 = .ok (.getfield 186, 3) := by decide +kernel
theorem dX12_scene_134 : decode cX12_scene 134 = .ok (.iconst (-1), 1) := by decide +kernel
theorem dX12_scene_135 : decode cX12_scene 135 = .ok (.if_icmp .ne 8, 3) := by decide +kernel
theorem dX12_scene_138 : decode cX12_scene 138 = .ok (.bipush 99, 2) := by decide +kernel
theorem dX12_scene_140 : decode cX12_scene 140 = .ok (.goto 7, 3) := by decide +kernel
theorem dX12_scene_143 : decode cX12_scene 143 = .ok (.aload_n 0, 1) := by decide +kernel
theorem dX12_scene_144 : decode cX12_scene 144 = .ok (.getfield 189, 3) := by decide +kernel
theorem dX12_scene_147 : decode cX12_scene 147 = .ok (.putfield 229, 3) := by decide +kernel
theorem dX12_scene_150 : decode cX12_scene 150 = .ok (.aload_n 0, 1) := by decide +kernel
theorem dX12_scene_151 : decode cX12_scene 151 = .ok (.iconst 1, 1) := by decide +kernel
theorem dX12_scene_152 : decode cX12_scene 152 = .ok (.putfield 232, 3) := by decide +kernel
theorem dX12_scene_155 : decode cX12_scene 155 = .ok (.aload_n 0, 1) := by decide +kernel
theorem dX12_scene_156 : decode cX12_scene 156 = .ok (.getfield 40, 3) := by decide +kernel
theorem dX12_scene_159 : decode cX12_scene 159 = .ok (.iconst 0, 1) := by decide +kernel
theorem dX12_scene_160 : decode cX12_scene 160 = .ok (.iconst 0, 1) := by decide +kernel
theorem dX12_scene_161 : decode cX12_scene 161 = .ok (.iastore, 1) := by decide +kernel
theorem dX12_scene_162 : decode cX12_scene 162 = .ok (.aload_n 0, 1) := by decide +kernel
theorem dX12_scene_163 : decode cX12_scene 163 = .ok (.getfield 40, 3) := by decide +kernel
theorem dX12_scene_166 : decode cX12_scene 166 = .ok (.iconst 1, 1) := by decide +kernel
theorem dX12_scene_167 : decode cX12_scene 167 = .ok (.iconst 0, 1) := by decide +kernel
theorem dX12_scene_168 : decode cX12_scene 168 = .ok (.iastore, 1) := by decide +kernel
theorem dX12_scene_169 : decode cX12_scene 169 = .ok (.aload_n 0, 1) := by decide +kernel
theorem dX12_scene_170 : decode cX12_scene 170 = .ok (.getfield 40, 3) := by decide +kernel
theorem dX12_scene_173 : decode cX12_scene 173 = .ok (.iconst 2, 1) := by decide +kernel
theorem dX12_scene_174 : decode cX12_scene 174 = .ok (.aload_n 0, 1) := by decide +kernel
theorem dX12_scene_175 : decode cX12_scene 175 = .ok (.getfield 226, 3) := by decide +kernel
theorem dX12_scene_178 : decode cX12_scene 178 = .ok (.iastore, 1) := by decide +kernel
theorem dX12_scene_179 : decode cX12_scene 179 = .ok (.aload_n 0, 1) := by decide +kernel
theorem dX12_scene_180 : decode cX12_scene 180 = .ok (.getfield 40, 3) := by decide +kernel
theorem dX12_scene_183 : decode cX12_scene 183 = .ok (.iconst 3, 1) := by decide +kernel
theorem dX12_scene_184 : decode cX12_scene 184 = .ok (.iconst 0, 1) := by decide +kernel
theorem dX12_scene_185 : decode cX12_scene 185 = .ok (.iastore, 1) := by decide +kernel
theorem dX12_scene_186 : decode cX12_scene 186 = .ok (.aload_n 0, 1) := by decide +kernel
theorem dX12_scene_187 : decode cX12_scene 187 = .ok (.iconst 0, 1) := by decide +kernel
theorem dX12_scene_188 : decode cX12_scene 188 = .ok (.putfield 235, 3) := by decide +kernel
theorem dX12_scene_191 : decode cX12_scene 191 = .ok (.iconst 0, 1) := by decide +kernel
theorem dX12_scene_192 : decode cX12_scene 192 = .ok (.istore_n 1, 1) := by decide +kernel
theorem dX12_scene_193 : decode cX12_scene 193 = .ok (.iload_n 1, 1) := by decide +kernel
theorem dX12_scene_194 : decode cX12_scene 194 = .ok (.iconst 3, 1) := by decide +kernel
theorem dX12_scene_195 : decode cX12_scene 195 = .ok (.if_icmp .ge 16, 3) := by decide +kernel
theorem dX12_scene_198 : decode cX12_scene 198 = .ok (.aload_n 0, 1) := by decide +kernel
theorem dX12_scene_199 : decode cX12_scene 199 = .ok (.getfield 46, 3) := by decide +kernel
theorem dX12_scene_202 : decode cX12_scene 202 = .ok (.iload_n 1, 1) := by decide +kernel
theorem dX12_scene_203 : decode cX12_scene 203 = .ok (.iconst 0, 1) := by decide +kernel
theorem dX12_scene_204 : decode cX12_scene 204 = .ok (.bastore, 1) := by decide +kernel
theorem dX12_scene_205 : decode cX12_scene 205 = .ok (.iinc 1 1, 3) := by decide +kernel
theorem dX12_scene_208 : decode cX12_scene 208 = .ok (.goto (-15), 3) := by decide +kernel
theorem dX12_scene_211 : decode cX12_scene 211 = .ok (.aload_n 0, 1) := by decide +kernel
theorem dX12_scene_212 : decode cX12_scene 212 = .ok (.iconst 0, 1) := by decide +kernel
theorem dX12_scene_213 : decode cX12_scene 213 = .ok (.putfield 94, 3) := by decide +kernel
theorem dX12_scene_216 : decode cX12_scene 216 = .ok (.aload_n 0, 1) := by decide +kernel
theorem dX12_scene_217 : decode cX12_scene 217 = .ok (.getfield 220, 3) := by decide +kernel
theorem dX12_scene_220 : decode cX12_scene 220 = .ok (.ireturn, 1) := by decide +kernel
theorem dX12_lays_0 : decode cX12_lays 0 = .ok (.aload_n 0, 1) := by decide +kernel
theorem dX12_lays_1 : decode cX12_lays 1 = .ok (.getfield 61, 3) := by decide +kernel
theorem dX12_lays_4 : decode cX12_lays 4 = .ok (.iconst 2, 1) := by decide +kernel
theorem dX12_lays_5 : decode cX12_lays 5 = .ok (.aload_n 0, 1) := by decide +kernel
theorem dX12_lays_6 : decode cX12_lays 6 = .ok (.getfield 238, 3) := by decide +kernel
theorem dX12_lays_9 : decode cX12_lays 9 = .ok (.imul, 1) := by decide +kernel
theorem dX12_lays_10 : decode cX12_lays 10 = .ok (.iload_n 1, 1) := by decide +kernel
theorem dX12_lays_11 : decode cX12_lays 11 = .ok (.iastore, 1) := by decide +kernel
theorem dX12_lays_12 : decode cX12_lays 12 = .ok (.aload_n 0, 1) := by decide +kernel
theorem dX12_lays_13 : decode cX12_lays 13 = .ok (.getfield 61, 3) := by decide +kernel
theorem dX12_lays_16 : decode cX12_lays 16 = .ok (.iconst 2, 1) := by decide +kernel
theorem dX12_lays_17 : decode cX12_lays 17 = .ok (.aload_n 0, 1) := by decide +kernel
theorem dX12_lays_18 : decode cX12_lays 18 = .ok (.getfield 238, 3) := by decide +kernel
theorem dX12_lays_21 : decode cX12_lays 21 = .ok (.imul, 1) := by decide +kernel
theorem dX12_lays_22 : decode cX12_lays 22 = .ok (.iconst 1, 1) := by decide +kernel
theorem dX12_lays_23 : decode cX12_lays 23 = .ok (.iadd, 1) := by decide +kernel
theorem dX12_lays_24 : decode cX12_lays 24 = .ok (.iload_n 2, 1) := by decide +kernel
theorem dX12_lays_25 : decode cX12_lays 25 = .ok (.iastore, 1) := by decide +kernel
theorem dX12_lays_26 : decode cX12_lays 26 = .ok (.aload_n 0, 1) := by decide +kernel
theorem dX12_lays_27 : decode cX12_lays 27 = .ok (.dup, 1) := by decide +kernel
theorem dX12_lays_28 : decode cX12_lays 28 = .ok (.getfield 238, 3) := by decide +kernel
theorem dX12_lays_31 : decode cX12_lays 31 = .ok (.iconst 1, 1) := by decide +kernel
theorem dX12_lays_32 : decode cX12_lays 32 = .ok (.iadd, 1) := by decide +kernel
theorem dX12_lays_33 : decode cX12_lays 33 = .ok (.putfield 238, 3) := by decide +kernel
theorem dX12_lays_36 : decode cX12_lays 36 = .ok (.return_, 1) := by decide +kernel
theorem dX12_rank_0 : decode cX12_rank 0 = .ok (.iload_n 0, 1) := by decide +kernel
theorem dX12_rank_1 : decode cX12_rank 1 = .ok (.iconst 4, 1) := by decide +kernel
theorem dX12_rank_2 : decode cX12_rank 2 = .ok (.if_icmp .ne 7, 3) := by decide +kernel
theorem dX12_rank_5 : decode cX12_rank 5 = .ok (.iconst 2, 1) := by decide +kernel
theorem dX12_rank_6 : decode cX12_rank 6 = .ok (.goto 18, 3) := by decide +kernel
theorem dX12_rank_9 : decode cX12_rank 9 = .ok (.iload_n 0, 1) := by decide +kernel
theorem dX12_rank_10 : decode cX12_rank 10 = .ok (.iconst 2, 1) := by decide +kernel
theorem dX12_rank_11 : decode cX12_rank 11 = .ok (.if_icmp .eq 8, 3) := by decide +kernel
theorem dX12_rank_14 : decode cX12_rank 14 = .ok (.iload_n 0, 1) := by decide +kernel
theorem dX12_rank_15 : decode cX12_rank 15 = .ok (.iconst 3, 1) := by decide +kernel
theorem dX12_rank_16 : decode cX12_rank 16 = .ok (.if_icmp .ne 7, 3) := by decide +kernel
theorem dX12_rank_19 : decode cX12_rank 19 = .ok (.iconst 1, 1) := by decide +kernel
theorem dX12_rank_20 : decode cX12_rank 20 = .ok (.goto 4, 3) := by decide +kernel
theorem dX12_rank_23 : decode cX12_rank 23 = .ok (.iconst 0, 1) := by decide +kernel
theorem dX12_rank_24 : decode cX12_rank 24 = .ok (.ireturn, 1) := by decide +kernel
theorem dX12_empties_0 : decode cX12_empties 0 = .ok (.aload_n 0, 1) := by decide +kernel
theorem dX12_empties_1 : decode cX12_empties 1 = .ok (.getfield 241, 3) := by decide +kernel
theorem dX12_empties_4 : decode cX12_empties 4 = .ok (.ifCond .le 63, 3) := by decide +kernel
theorem dX12_empties_7 : decode cX12_empties 7 = .ok (.aload_n 0, 1) := by decide +kernel
theorem dX12_empties_8 : decode cX12_empties 8 = .ok (.getfield 67, 3) := by decide +kernel
theorem dX12_empties_11 : decode cX12_empties 11 = .ok (.aload_n 0, 1) := by decide +kernel
theorem dX12_empties_12 : decode cX12_empties 12 = .ok (.getfield 241, 3) := by decide +kernel
theorem dX12_empties_15 : decode cX12_empties 15 = .ok (.iconst 1, 1) := by decide +kernel
theorem dX12_empties_16 : decode cX12_empties 16 = .ok (.isub, 1) := by decide +kernel
theorem dX12_empties_17 : decode cX12_empties 17 = .ok (.iaload, 1) := by decide +kernel
theorem dX12_empties_18 : decode cX12_empties 18 = .ok (.iconst (-1), 1) := by decide +kernel
theorem dX12_empties_19 : decode cX12_empties 19 = .ok (.if_icmp .eq 48, 3) := by decide +kernel
theorem dX12_empties_22 : decode cX12_empties 22 = .ok (.aload_n 0, 1) := by decide +kernel
theorem dX12_empties_23 : decode cX12_empties 23 = .ok (.getfield 67, 3) := by decide +kernel
theorem dX12_empties_26 : decode cX12_empties 26 = .ok (.aload_n 0, 1) := by decide +kernel
theorem dX12_empties_27 : decode cX12_empties 27 = .ok (.getfield 241, 3) := by decide +kernel
theorem dX12_empties_30 : decode cX12_empties 30 = .ok (.iconst 1, 1) := by decide +kernel
theorem dX12_empties_31 : decode cX12_empties 31 = .ok (.isub, 1) := by decide +kernel
theorem dX12_empties_32 : decode cX12_empties 32 = .ok (.iaload, 1) := by decide +kernel
theorem dX12_empties_33 : decode cX12_empties 33 = .ok (.invokestatic 244, 3) := by decide +kernel
theorem dX12_empties_36 : decode cX12_empties 36 = .ok (.iload_n 1, 1) := by decide +kernel
theorem dX12_empties_37 : decode cX12_empties 37 = .ok (.if_icmp .lt 30, 3) := by decide +kernel
theorem dX12_empties_40 : decode cX12_empties 40 = .ok (.aload_n 0, 1) := by decide +kernel
theorem dX12_empties_41 : decode cX12_empties 41 = .ok (.dup, 1) := by decide +kernel
theorem dX12_empties_42 : decode cX12_empties 42 = .ok (.getfield 241, 3) := by decide +kernel
theorem dX12_empties_45 : decode cX12_empties 45 = .ok (.iconst 1, 1) := by decide +kernel
theorem dX12_empties_46 : decode cX12_empties 46 = .ok (.isub, 1) := by decide +kernel
theorem dX12_empties_47 : decode cX12_empties 47 = .ok (.putfield 241, 3) := by decide +kernel
theorem dX12_empties_50 : decode cX12_empties 50 = .ok (.aload_n 0, 1) := by decide +kernel
theorem dX12_empties_51 : decode cX12_empties 51 = .ok (.aload_n 0, 1) := by decide +kernel
theorem dX12_empties_52 : decode cX12_empties 52 = .ok (.getfield 67, 3) := by decide +kernel
theorem dX12_empties_55 : decode cX12_empties 55 = .ok (.aload_n 0, 1) := by decide +kernel
theorem dX12_empties_56 : decode cX12_empties 56 = .ok (.getfield 241, 3) := by decide +kernel
theorem dX12_empties_59 : decode cX12_empties 59 = .ok (.iaload, 1) := by decide +kernel
theorem dX12_empties_60 : decode cX12_empties 60 = .ok (.iconst 0, 1) := by decide +kernel
theorem dX12_empties_61 : decode cX12_empties 61 = .ok (.invokevirtual 248, 3) := by decide +kernel
theorem dX12_empties_64 : decode cX12_empties 64 = .ok (.goto (-64), 3) := by decide +kernel
theorem dX12_empties_67 : decode cX12_empties 67 = .ok (.return_, 1) := by decide +kernel
theorem dX12_nameHere_0 : decode cX12_nameHere 0 = .ok (.aload_n 0, 1) := by decide +kernel
theorem dX12_nameHere_1 : decode cX12_nameHere 1 = .ok (.ldc 252, 2) := by decide +kernel
theorem dX12_nameHere_3 : decode cX12_nameHere 3 = .ok (.invokevirtual 156, 3) := by decide +kernel
theorem dX12_nameHere_6 : decode cX12_nameHere 6 = .ok (.ifCond .eq 7, 3) := by decide +kernel
theorem dX12_nameHere_9 : decode cX12_nameHere 9 = .ok (.iconst 0, 1) := by decide +kernel
theorem dX12_nameHere_10 : decode cX12_nameHere 10 = .ok (.goto 86, 3) := by decide +kernel
theorem dX12_nameHere_13 : decode cX12_nameHere 13 = .ok (.aload_n 0, 1) := by decide +kernel
theorem dX12_nameHere_14 : decode cX12_nameHere 14 = .ok (.ldc 254, 2) := by decide +kernel
theorem dX12_nameHere_16 : decode cX12_nameHere 16 = .ok (.invokevirtual 156, 3) := by decide +kernel
theorem dX12_nameHere_19 : decode cX12_nameHere 19 = .ok (.ifCond .eq 7, 3) := by decide +kernel
theorem dX12_nameHere_22 : decode cX12_nameHere 22 = .ok (.iconst 1, 1) := by decide +kernel
theorem dX12_nameHere_23 : decode cX12_nameHere 23 = .ok (.goto 73, 3) := by decide +kernel
theorem dX12_nameHere_26 : decode cX12_nameHere 26 = .ok (.aload_n 0, 1) := by decide +kernel
theorem dX12_nameHere_27 : decode cX12_nameHere 27 = .ok (.ldc 160, 2) := by decide +kernel
theorem dX12_nameHere_29 : decode cX12_nameHere 29 = .ok (.invokevirtual 156, 3) := by decide +kernel
theorem dX12_nameHere_32 : decode cX12_nameHere 32 = .ok (.ifCond .eq 7, 3) := by decide +kernel
theorem dX12_nameHere_35 : decode cX12_nameHere 35 = .ok (.iconst 2, 1) := by decide +kernel
theorem dX12_nameHere_36 : decode cX12_nameHere 36 = .ok (.goto 60, 3) := by decide +kernel
theorem dX12_nameHere_39 : decode cX12_nameHere 39 = .ok (.aload_n 0, 1) := by decide +kernel
theorem dX12_nameHere_40 : decode cX12_nameHere 40 = .ok (.ldc 162, 2) := by decide +kernel
theorem dX12_nameHere_42 : decode cX12_nameHere 42 = .ok (.invokevirtual 156, 3) := by decide +kernel
theorem dX12_nameHere_45 : decode cX12_nameHere 45 = .ok (.ifCond .eq 7, 3) := by decide +kernel
theorem dX12_nameHere_48 : decode cX12_nameHere 48 = .ok (.iconst 3, 1) := by decide +kernel
theorem dX12_nameHere_49 : decode cX12_nameHere 49 = .ok (.goto 47, 3) := by decide +kernel
theorem dX12_nameHere_52 : decode cX12_nameHere 52 = .ok (.aload_n 0, 1) := by decide +kernel
theorem dX12_nameHere_53 : decode cX12_nameHere 53 = .ok (.ldc_w 256, 3) := by decide +kernel
theorem dX12_nameHere_56 : decode cX12_nameHere 56 = .ok (.invokevirtual 156, 3) := by decide +kernel
theorem dX12_nameHere_59 : decode cX12_nameHere 59 = .ok (.ifCond .eq 7, 3) := by decide +kernel
theorem dX12_nameHere_62 : decode cX12_nameHere 62 = .ok (.iconst 4, 1) := by decide +kernel
theorem dX12_nameHere_63 : decode cX12_nameHere 63 = .ok (.goto 33, 3) := by decide +kernel
theorem dX12_nameHere_66 : decode cX12_nameHere 66 = .ok (.aload_n 0, 1) := by decide +kernel
theorem dX12_nameHere_67 : decode cX12_nameHere 67 = .ok (.ldc_w 258, 3) := by decide +kernel
theorem dX12_nameHere_70 : decode cX12_nameHere 70 = .ok (.invokevirtual 156, 3) := by decide +kernel
theorem dX12_nameHere_73 : decode cX12_nameHere 73 = .ok (.ifCond .eq 7, 3) := by decide +kernel
theorem dX12_nameHere_76 : decode cX12_nameHere 76 = .ok (.iconst 5, 1) := by decide +kernel
theorem dX12_nameHere_77 : decode cX12_nameHere 77 = .ok (.goto 19, 3) := by decide +kernel
theorem dX12_nameHere_80 : decode cX12_nameHere 80 = .ok (.aload_n 0, 1) := by decide +kernel
theorem dX12_nameHere_81 : decode cX12_nameHere 81 = .ok (.ldc_w 260, 3) := by decide +kernel
theorem dX12_nameHere_84 : decode cX12_nameHere 84 = .ok (.invokevirtual 156, 3) := by decide +kernel
theorem dX12_nameHere_87 : decode cX12_nameHere 87 = .ok (.ifCond .eq 8, 3) := by decide +kernel
theorem dX12_nameHere_90 : decode cX12_nameHere 90 = .ok (.bipush 6, 2) := by decide +kernel
theorem dX12_nameHere_92 : decode cX12_nameHere 92 = .ok (.goto 4, 3) := by decide +kernel
theorem dX12_nameHere_95 : decode cX12_nameHere 95 = .ok (.iconst (-1), 1) := by decide +kernel
theorem dX12_nameHere_96 : decode cX12_nameHere 96 = .ok (.ireturn, 1) := by decide +kernel
theorem dX12_sumHere_0 : decode cX12_sumHere 0 = .ok (.aload_n 0, 1) := by decide +kernel
theorem dX12_sumHere_1 : decode cX12_sumHere 1 = .ok (.iconst 0, 1) := by decide +kernel
theorem dX12_sumHere_2 : decode cX12_sumHere 2 = .ok (.putfield 241, 3) := by decide +kernel
theorem dX12_sumHere_5 : decode cX12_sumHere 5 = .ok (.iconst 0, 1) := by decide +kernel
theorem dX12_sumHere_6 : decode cX12_sumHere 6 = .ok (.istore_n 1, 1) := by decide +kernel
theorem dX12_sumHere_7 : decode cX12_sumHere 7 = .ok (.iconst 1, 1) := by decide +kernel
theorem dX12_sumHere_8 : decode cX12_sumHere 8 = .ok (.istore_n 2, 1) := by decide +kernel
theorem dX12_sumHere_9 : decode cX12_sumHere 9 = .ok (.iload_n 2, 1) := by decide +kernel
theorem dX12_sumHere_10 : decode cX12_sumHere 10 = .ok (.ifCond .eq 237, 3) := by decide +kernel
theorem dX12_sumHere_13 : decode cX12_sumHere 13 = .ok (.aload_n 0, 1) := by decide +kernel
theorem dX12_sumHere_14 : decode cX12_sumHere 14 = .ok (.bipush 40, 2) := by decide +kernel
theorem dX12_sumHere_16 : decode cX12_sumHere 16 = .ok (.invokevirtual 145, 3) := by decide +kernel
theorem dX12_sumHere_19 : decode cX12_sumHere 19 = .ok (.ifCond .eq 41, 3) := by decide +kernel
theorem dX12_sumHere_22 : decode cX12_sumHere 22 = .ok (.iload_n 1, 1) := by decide +kernel
theorem dX12_sumHere_23 : decode cX12_sumHere 23 = .ok (.bipush 8, 2) := by decide +kernel
theorem dX12_sumHere_25 : decode cX12_sumHere 25 = .ok (.if_icmp .ne 5, 3) := by decide +kernel
theorem dX12_sumHere_28 : decode cX12_sumHere 28 = .ok (.iconst 0, 1) := by decide +kernel
theorem dX12_sumHere_29 : decode cX12_sumHere 29 = .ok (.ireturn, 1) := by decide +kernel
theorem dX12_sumHere_30 : decode cX12_sumHere 30 = .ok (.iinc 1 1, 3) := by decide +kernel
theorem dX12_sumHere_33 : decode cX12_sumHere 33 = .ok (.aload_n 0, 1) := by decide +kernel
theorem dX12_sumHere_34 : decode cX12_sumHere 34 = .ok (.getfield 67, 3) := by decide +kernel
theorem dX12_sumHere_37 : decode cX12_sumHere 37 = .ok (.aload_n 0, 1) := by decide +kernel
theorem dX12_sumHere_38 : decode cX12_sumHere 38 = .ok (.getfield 241, 3) := by decide +kernel
theorem dX12_sumHere_41 : decode cX12_sumHere 41 = .ok (.iconst (-1), 1) := by decide +kernel
theorem dX12_sumHere_42 : decode cX12_sumHere 42 = .ok (.iastore, 1) := by decide +kernel
theorem dX12_sumHere_43 : decode cX12_sumHere 43 = .ok (.aload_n 0, 1) := by decide +kernel
theorem dX12_sumHere_44 : decode cX12_sumHere 44 = .ok (.dup, 1) := by decide +kernel
theorem dX12_sumHere_45 : decode cX12_sumHere 45 = .ok (.getfield 241, 3) := by decide +kernel
theorem dX12_sumHere_48 : decode cX12_sumHere 48 = .ok (.iconst 1, 1) := by decide +kernel
theorem dX12_sumHere_49 : decode cX12_sumHere 49 = .ok (.iadd, 1) := by decide +kernel
theorem dX12_sumHere_50 : decode cX12_sumHere 50 = .ok (.putfield 241, 3) := by decide +kernel
theorem dX12_sumHere_53 : decode cX12_sumHere 53 = .ok (.aload_n 0, 1) := by decide +kernel
theorem dX12_sumHere_54 : decode cX12_sumHere 54 = .ok (.invokevirtual 148, 3) := by decide +kernel
theorem dX12_sumHere_57 : decode cX12_sumHere 57 = .ok (.goto (-44), 3) := by decide +kernel
theorem dX12_sumHere_60 : decode cX12_sumHere 60 = .ok (.aload_n 0, 1) := by decide +kernel
theorem dX12_sumHere_61 : decode cX12_sumHere 61 = .ok (.getfield 112, 3) := by decide +kernel
theorem dX12_sumHere_64 : decode cX12_sumHere 64 = .ok (.iconst 2, 1) := by decide +kernel
theorem dX12_sumHere_65 : decode cX12_sumHere 65 = .ok (.if_icmp .ne 28, 3) := by decide +kernel
theorem dX12_sumHere_68 : decode cX12_sumHere 68 = .ok (.aload_n 0, 1) := by decide +kernel
theorem dX12_sumHere_69 : decode cX12_sumHere 69 = .ok (.iconst 0, 1) := by decide +kernel
theorem dX12_sumHere_70 : decode cX12_sumHere 70 = .ok (.sipush 9999, 3) := by decide +kernel
theorem dX12_sumHere_73 : decode cX12_sumHere 73 = .ok (.invokevirtual 179, 3) := by decide +kernel
theorem dX12_sumHere_76 : decode cX12_sumHere 76 = .ok (.ifCond .ne 5, 3) := by decide +kernel
theorem dX12_sumHere_79 : decode cX12_sumHere 79 = .ok (.iconst 0, 1) := by decide +kernel
theorem dX12_sumHere_80 : decode cX12_sumHere 80 = .ok (.ireturn, 1) := by decide +kernel
theorem dX12_sumHere_81 : decode cX12_sumHere 81 = .ok (.aload_n 0, 1) := by decide +kernel
theorem dX12_sumHere_82 : decode cX12_sumHere 82 = .ok (.iconst 0, 1) := by decide +kernel
theorem dX12_sumHere_83 : decode cX12_sumHere 83 = .ok (.aload_n 0, 1) := by decide +kernel
theorem dX12_sumHere_84 : decode cX12_sumHere 84 = .ok (.getfield 151, 3) := by decide +kernel
theorem dX12_sumHere_87 : decode cX12_sumHere 87 = .ok (.invokevirtual 248, 3) := by decide +kernel
theorem dX12_sumHere_90 : decode cX12_sumHere 90 = .ok (.goto 25, 3) := by decide +kernel
theorem dX12_sumHere_93 : decode cX12_sumHere 93 = .ok (.aload_n 0, 1) := by decide +kernel
theorem dX12_sumHere_94 : decode cX12_sumHere 94 = .ok (.invokevirtual 262, 3) := by decide +kernel
theorem dX12_sumHere_97 : decode cX12_sumHere 97 = .ok (.istore_n 3, 1) := by decide +kernel
theorem dX12_sumHere_98 : decode cX12_sumHere 98 = .ok (.iload_n 3, 1) := by decide +kernel
theorem dX12_sumHere_99 : decode cX12_sumHere 99 = .ok (.iconst (-1), 1) := by decide +kernel
theorem dX12_sumHere_100 : decode cX12_sumHere 100 = .ok (.if_icmp .ne 5, 3) := by decide +kernel
theorem dX12_sumHere_103 : decode cX12_sumHere 103 = .ok (.iconst 0, 1) := by decide +kernel
theorem dX12_sumHere_104 : decode cX12_sumHere 104 = .ok (.ireturn, 1) := by decide +kernel
theorem dX12_sumHere_105 : decode cX12_sumHere 105 = .ok (.aload_n 0, 1) := by decide +kernel
theorem dX12_sumHere_106 : decode cX12_sumHere 106 = .ok (.iconst 1, 1) := by decide +kernel
theorem dX12_sumHere_107 : decode cX12_sumHere 107 = .ok (.iload_n 3, 1) := by decide +kernel
theorem dX12_sumHere_108 : decode cX12_sumHere 108 = .ok (.invokevirtual 248, 3) := by decide +kernel
theorem dX12_sumHere_111 : decode cX12_sumHere 111 = .ok (.aload_n 0, 1) := by decide +kernel
theorem dX12_sumHere_112 : decode cX12_sumHere 112 = .ok (.invokevirtual 148, 3) := by decide +kernel
theorem dX12_sumHere_115 : decode cX12_sumHere 115 = .ok (.aload_n 0, 1) := by decide +kernel
theorem dX12_sumHere_116 : decode cX12_sumHere 116 = .ok (.bipush 41, 2) := by decide +kernel
theorem dX12_sumHere_118 : decode cX12_sumHere 118 = .ok (.invokevirtual 145, 3) := by decide +kernel
theorem dX12_sumHere_121 : decode cX12_sumHere 121 = .ok (.ifCond .eq 32, 3) := by decide +kernel
theorem dX12_sumHere_124 : decode cX12_sumHere 124 = .ok (.iload_n 1, 1) := by decide +kernel
theorem dX12_sumHere_125 : decode cX12_sumHere 125 = .ok (.ifCond .le 28, 3) := by decide +kernel
theorem dX12_sumHere_128 : decode cX12_sumHere 128 = .ok (.aload_n 0, 1) := by decide +kernel
theorem dX12_sumHere_129 : decode cX12_sumHere 129 = .ok (.iconst 1, 1) := by decide +kernel
theorem dX12_sumHere_130 : decode cX12_sumHere 130 = .ok (.invokevirtual 265, 3) := by decide +kernel
theorem dX12_sumHere_133 : decode cX12_sumHere 133 = .ok (.aload_n 0, 1) := by decide +kernel
theorem dX12_sumHere_134 : decode cX12_sumHere 134 = .ok (.dup, 1) := by decide +kernel
theorem dX12_sumHere_135 : decode cX12_sumHere 135 = .ok (.getfield 241, 3) := by decide +kernel
theorem dX12_sumHere_138 : decode cX12_sumHere 138 = .ok (.iconst 1, 1) := by decide +kernel
theorem dX12_sumHere_139 : decode cX12_sumHere 139 = .ok (.isub, 1) := by decide +kernel
theorem dX12_sumHere_140 : decode cX12_sumHere 140 = .ok (.putfield 241, 3) := by decide +kernel
theorem dX12_sumHere_143 : decode cX12_sumHere 143 = .ok (.iinc 1 (-1), 3) := by decide +kernel
theorem dX12_sumHere_146 : decode cX12_sumHere 146 = .ok (.aload_n 0, 1) := by decide +kernel
theorem dX12_sumHere_147 : decode cX12_sumHere 147 = .ok (.invokevirtual 148, 3) := by decide +kernel
theorem dX12_sumHere_150 : decode cX12_sumHere 150 = .ok (.goto (-35), 3) := by decide +kernel
theorem dX12_sumHere_153 : decode cX12_sumHere 153 = .ok (.aload_n 0, 1) := by decide +kernel
theorem dX12_sumHere_154 : decode cX12_sumHere 154 = .ok (.bipush 43, 2) := by decide +kernel
theorem dX12_sumHere_156 : decode cX12_sumHere 156 = .ok (.invokevirtual 145, 3) := by decide +kernel
theorem dX12_sumHere_159 : decode cX12_sumHere 159 = .ok (.ifCond .eq 7, 3) := by decide +kernel
theorem dX12_sumHere_162 : decode cX12_sumHere 162 = .ok (.iconst 2, 1) := by decide +kernel
theorem dX12_sumHere_163 : decode cX12_sumHere 163 = .ok (.goto 30, 3) := by decide +kernel
theorem dX12_sumHere_166 : decode cX12_sumHere 166 = .ok (.aload_n 0, 1) := by decide +kernel
theorem dX12_sumHere_167 : decode cX12_sumHere 167 = .ok (.bipush 45, 2) := by decide +kernel
theorem dX12_sumHere_169 : decode cX12_sumHere 169 = .ok (.invokevirtual 145, 3) := by decide +kernel
theorem dX12_sumHere_172 : decode cX12_sumHere 172 = .ok (.ifCond .eq 7, 3) := by decide +kernel
theorem dX12_sumHere_175 : decode cX12_sumHere 175 = .ok (.iconst 3, 1) := by decide +kernel
theorem dX12_sumHere_176 : decode cX12_sumHere 176 = .ok (.goto 17, 3) := by decide +kernel
theorem dX12_sumHere_179 : decode cX12_sumHere 179 = .ok (.aload_n 0, 1) := by decide +kernel
theorem dX12_sumHere_180 : decode cX12_sumHere 180 = .ok (.bipush 42, 2) := by decide +kernel
theorem dX12_sumHere_182 : decode cX12_sumHere 182 = .ok (.invokevirtual 145, 3) := by decide +kernel
theorem dX12_sumHere_185 : decode cX12_sumHere 185 = .ok (.ifCond .eq 7, 3) := by decide +kernel
theorem dX12_sumHere_188 : decode cX12_sumHere 188 = .ok (.iconst 4, 1) := by decide +kernel
theorem dX12_sumHere_189 : decode cX12_sumHere 189 = .ok (.goto 4, 3) := by decide +kernel
theorem dX12_sumHere_192 : decode cX12_sumHere 192 = .ok (.iconst (-1), 1) := by decide +kernel
theorem dX12_sumHere_193 : decode cX12_sumHere 193 = .ok (.istore_n 3, 1) := by decide +kernel
theorem dX12_sumHere_194 : decode cX12_sumHere 194 = .ok (.iload_n 3, 1) := by decide +kernel
theorem dX12_sumHere_195 : decode cX12_sumHere 195 = .ok (.iconst (-1), 1) := by decide +kernel
theorem dX12_sumHere_196 : decode cX12_sumHere 196 = .ok (.if_icmp .eq 7, 3) := by decide +kernel
theorem dX12_sumHere_199 : decode cX12_sumHere 199 = .ok (.iconst 1, 1) := by decide +kernel
theorem dX12_sumHere_200 : decode cX12_sumHere 200 = .ok (.goto 4, 3) := by decide +kernel
theorem dX12_sumHere_203 : decode cX12_sumHere 203 = .ok (.iconst 0, 1) := by decide +kernel
theorem dX12_sumHere_204 : decode cX12_sumHere 204 = .ok (.istore_n 2, 1) := by decide +kernel
theorem dX12_sumHere_205 : decode cX12_sumHere 205 = .ok (.iload_n 2, 1) := by decide +kernel
theorem dX12_sumHere_206 : decode cX12_sumHere 206 = .ok (.ifCond .ne 6, 3) := by decide +kernel
theorem dX12_sumHere_209 : decode cX12_sumHere 209 = .ok (.goto (-200), 3) := by decide +kernel
theorem dX12_sumHere_212 : decode cX12_sumHere 212 = .ok (.aload_n 0, 1) := by decide +kernel
theorem dX12_sumHere_213 : decode cX12_sumHere 213 = .ok (.iload_n 3, 1) := by decide +kernel
theorem dX12_sumHere_214 : decode cX12_sumHere 214 = .ok (.invokestatic 244, 3) := by decide +kernel
theorem dX12_sumHere_217 : decode cX12_sumHere 217 = .ok (.invokevirtual 265, 3) := by decide +kernel
theorem dX12_sumHere_220 : decode cX12_sumHere 220 = .ok (.aload_n 0, 1) := by decide +kernel
theorem dX12_sumHere_221 : decode cX12_sumHere 221 = .ok (.getfield 67, 3) := by decide +kernel
theorem dX12_sumHere_224 : decode cX12_sumHere 224 = .ok (.aload_n 0, 1) := by decide +kernel
theorem dX12_sumHere_225 : decode cX12_sumHere 225 = .ok (.getfield 241, 3) := by decide +kernel
theorem dX12_sumHere_228 : decode cX12_sumHere 228 = .ok (.iload_n 3, 1) := by decide +kernel
theorem dX12_sumHere_229 : decode cX12_sumHere 229 = .ok (.iastore, 1) := by decide +kernel
theorem dX12_sumHere_230 : decode cX12_sumHere 230 = .ok (.aload_n 0, 1) := by decide +kernel
theorem dX12_sumHere_231 : decode cX12_sumHere 231 = .ok (.dup, 1) := by decide +kernel
theorem dX12_sumHere_232 : decode cX12_sumHere 232 = .ok (.getfield 241, 3) := by decide +kernel
theorem dX12_sumHere_235 : decode cX12_sumHere 235 = .ok (.iconst 1, 1) := by decide +kernel
theorem dX12_sumHere_236 : decode cX12_sumHere 236 = .ok (.iadd, 1) := by decide +kernel
theorem dX12_sumHere_237 : decode cX12_sumHere 237 = .ok (.putfield 241, 3) := by decide +kernel
theorem dX12_sumHere_240 : decode cX12_sumHere 240 = .ok (.aload_n 0, 1) := by decide +kernel
theorem dX12_sumHere_241 : decode cX12_sumHere 241 = .ok (.invokevirtual 148, 3) := by decide +kernel
theorem dX12_sumHere_244 : decode cX12_sumHere 244 = .ok (.goto (-235), 3) := by decide +kernel
theorem dX12_sumHere_247 : decode cX12_sumHere 247 = .ok (.iload_n 1, 1) := by decide +kernel
theorem dX12_sumHere_248 : decode cX12_sumHere 248 = .ok (.ifCond .le 5, 3) := by decide +kernel
theorem dX12_sumHere_251 : decode cX12_sumHere 251 = .ok (.iconst 0, 1) := by decide +kernel
theorem dX12_sumHere_252 : decode cX12_sumHere 252 = .ok (.ireturn, 1) := by decide +kernel
theorem dX12_sumHere_253 : decode cX12_sumHere 253 = .ok (.aload_n 0, 1) := by decide +kernel
theorem dX12_sumHere_254 : decode cX12_sumHere 254 = .ok (.iconst 1, 1) := by decide +kernel
theorem dX12_sumHere_255 : decode cX12_sumHere 255 = .ok (.invokevirtual 265, 3) := by decide +kernel
theorem dX12_sumHere_258 : decode cX12_sumHere 258 = .ok (.iconst 1, 1) := by decide +kernel
theorem dX12_sumHere_259 : decode cX12_sumHere 259 = .ok (.ireturn, 1) := by decide +kernel
theorem dX12_ruleLine_0 : decode cX12_ruleLine 0 = .ok (.aload_n 0, 1) := by decide +kernel
theorem dX12_ruleLine_1 : decode cX12_ruleLine 1 = .ok (.ldc_w 269, 3) := by decide +kernel
theorem dX12_ruleLine_4 : decode cX12_ruleLine 4 = .ok (.invokevirtual 156, 3) := by decide +kernel
theorem dX12_ruleLine_7 : decode cX12_ruleLine 7 = .ok (.ifCond .eq 12, 3) := by decide +kernel
theorem dX12_ruleLine_10 : decode cX12_ruleLine 10 = .ok (.aload_n 0, 1) := by decide +kernel
theorem dX12_ruleLine_11 : decode cX12_ruleLine 11 = .ok (.getfield 271, 3) := by decide +kernel
theorem dX12_ruleLine_14 : decode cX12_ruleLine 14 = .ok (.bipush 10, 2) := by decide +kernel
theorem dX12_ruleLine_16 : decode cX12_ruleLine 16 = .ok (.if_icmp .ne 5, 3) := by decide +kernel
theorem dX12_ruleLine_19 : decode cX12_ruleLine 19 = .ok (.iconst 0, 1) := by decide +kernel
theorem dX12_ruleLine_20 : decode cX12_ruleLine 20 = .ok (.ireturn, 1) := by decide +kernel
theorem dX12_ruleLine_21 : decode cX12_ruleLine 21 = .ok (.aload_n 0, 1) := by decide +kernel
theorem dX12_ruleLine_22 : decode cX12_ruleLine 22 = .ok (.invokevirtual 148, 3) := by decide +kernel
theorem dX12_ruleLine_25 : decode cX12_ruleLine 25 = .ok (.aload_n 0, 1) := by decide +kernel
theorem dX12_ruleLine_26 : decode cX12_ruleLine 26 = .ok (.ldc_w 274, 3) := by decide +kernel
theorem dX12_ruleLine_29 : decode cX12_ruleLine 29 = .ok (.invokevirtual 156, 3) := by decide +kernel
theorem dX12_ruleLine_32 : decode cX12_ruleLine 32 = .ok (.ifCond .eq 7, 3) := by decide +kernel
theorem dX12_ruleLine_35 : decode cX12_ruleLine 35 = .ok (.iconst 0, 1) := by decide +kernel
theorem dX12_ruleLine_36 : decode cX12_ruleLine 36 = .ok (.goto 46, 3) := by decide +kernel
theorem dX12_ruleLine_39 : decode cX12_ruleLine 39 = .ok (.aload_n 0, 1) := by decide +kernel
theorem dX12_ruleLine_40 : decode cX12_ruleLine 40 = .ok (.ldc_w 276, 3) := by decide +kernel
theorem dX12_ruleLine_43 : decode cX12_ruleLine 43 = .ok (.invokevirtual 156, 3) := by decide +kernel
theorem dX12_ruleLine_46 : decode cX12_ruleLine 46 = .ok (.ifCond .eq 7, 3) := by decide +kernel
theorem dX12_ruleLine_49 : decode cX12_ruleLine 49 = .ok (.iconst 1, 1) := by decide +kernel
theorem dX12_ruleLine_50 : decode cX12_ruleLine 50 = .ok (.goto 32, 3) := by decide +kernel
theorem dX12_ruleLine_53 : decode cX12_ruleLine 53 = .ok (.aload_n 0, 1) := by decide +kernel
theorem dX12_ruleLine_54 : decode cX12_ruleLine 54 = .ok (.ldc_w 278, 3) := by decide +kernel
theorem dX12_ruleLine_57 : decode cX12_ruleLine 57 = .ok (.invokevirtual 156, 3) := by decide +kernel
theorem dX12_ruleLine_60 : decode cX12_ruleLine 60 = .ok (.ifCond .eq 7, 3) := by decide +kernel
theorem dX12_ruleLine_63 : decode cX12_ruleLine 63 = .ok (.iconst 2, 1) := by decide +kernel
theorem dX12_ruleLine_64 : decode cX12_ruleLine 64 = .ok (.goto 18, 3) := by decide +kernel
theorem dX12_ruleLine_67 : decode cX12_ruleLine 67 = .ok (.aload_n 0, 1) := by decide +kernel
theorem dX12_ruleLine_68 : decode cX12_ruleLine 68 = .ok (.ldc_w 280, 3) := by decide +kernel
theorem dX12_ruleLine_71 : decode cX12_ruleLine 71 = .ok (.invokevirtual 156, 3) := by decide +kernel
theorem dX12_ruleLine_74 : decode cX12_ruleLine 74 = .ok (.ifCond .eq 7, 3) := by decide +kernel
theorem dX12_ruleLine_77 : decode cX12_ruleLine 77 = .ok (.iconst 3, 1) := by decide +kernel
theorem dX12_ruleLine_78 : decode cX12_ruleLine 78 = .ok (.goto 4, 3) := by decide +kernel
theorem dX12_ruleLine_81 : decode cX12_ruleLine 81 = .ok (.iconst (-1), 1) := by decide +kernel
theorem dX12_ruleLine_82 : decode cX12_ruleLine 82 = .ok (.istore_n 1, 1) := by decide +kernel
theorem dX12_ruleLine_83 : decode cX12_ruleLine 83 = .ok (.iload_n 1, 1) := by decide +kernel
theorem dX12_ruleLine_84 : decode cX12_ruleLine 84 = .ok (.iconst (-1), 1) := by decide +kernel
theorem dX12_ruleLine_85 : decode cX12_ruleLine 85 = .ok (.if_icmp .ne 5, 3) := by decide +kernel
theorem dX12_ruleLine_88 : decode cX12_ruleLine 88 = .ok (.iconst 0, 1) := by decide +kernel
theorem dX12_ruleLine_89 : decode cX12_ruleLine 89 = .ok (.ireturn, 1) := by decide +kernel
theorem dX12_ruleLine_90 : decode cX12_ruleLine 90 = .ok (.aload_n 0, 1) := by decide +kernel
theorem dX12_ruleLine_91 : decode cX12_ruleLine 91 = .ok (.invokevirtual 148, 3) := by decide +kernel
theorem dX12_ruleLine_94 : decode cX12_ruleLine 94 = .ok (.aload_n 0, 1) := by decide +kernel
theorem dX12_ruleLine_95 : decode cX12_ruleLine 95 = .ok (.ldc_w 282, 3) := by decide +kernel
theorem dX12_ruleLine_98 : decode cX12_ruleLine 98 = .ok (.invokevirtual 156, 3) := by decide +kernel
theorem dX12_ruleLine_101 : decode cX12_ruleLine 101 = .ok (.ifCond .ne 5, 3) := by decide +kernel
theorem dX12_ruleLine_104 : decode cX12_ruleLine 104 = .ok (.iconst 0, 1) := by decide +kernel
theorem dX12_ruleLine_105 : decode cX12_ruleLine 105 = .ok (.ireturn, 1) := by decide +kernel
theorem dX12_ruleLine_106 : decode cX12_ruleLine 106 = .ok (.iconst 1, 1) := by decide +kernel
theorem dX12_ruleLine_107 : decode cX12_ruleLine 107 = .ok (.istore_n 2, 1) := by decide +kernel
theorem dX12_ruleLine_108 : decode cX12_ruleLine 108 = .ok (.iload_n 2, 1) := by decide +kernel
theorem dX12_ruleLine_109 : decode cX12_ruleLine 109 = .ok (.ifCond .eq 82, 3) := by decide +kernel
theorem dX12_ruleLine_112 : decode cX12_ruleLine 112 = .ok (.aload_n 0, 1) := by decide +kernel
theorem dX12_ruleLine_113 : decode cX12_ruleLine 113 = .ok (.invokevirtual 148, 3) := by decide +kernel
theorem dX12_ruleLine_116 : decode cX12_ruleLine 116 = .ok (.aload_n 0, 1) := by decide +kernel
theorem dX12_ruleLine_117 : decode cX12_ruleLine 117 = .ok (.invokevirtual 284, 3) := by decide +kernel
theorem dX12_ruleLine_120 : decode cX12_ruleLine 120 = .ok (.ifCond .ne 5, 3) := by decide +kernel
theorem dX12_ruleLine_123 : decode cX12_ruleLine 123 = .ok (.iconst 0, 1) := by decide +kernel
theorem dX12_ruleLine_124 : decode cX12_ruleLine 124 = .ok (.ireturn, 1) := by decide +kernel
theorem dX12_ruleLine_125 : decode cX12_ruleLine 125 = .ok (.aload_n 0, 1) := by decide +kernel
theorem dX12_ruleLine_126 : decode cX12_ruleLine 126 = .ok (.bipush 60, 2) := by decide +kernel
theorem dX12_ruleLine_128 : decode cX12_ruleLine 128 = .ok (.invokevirtual 145, 3) := by decide +kernel
theorem dX12_ruleLine_131 : decode cX12_ruleLine 131 = .ok (.ifCond .eq 7, 3) := by decide +kernel
theorem dX12_ruleLine_134 : decode cX12_ruleLine 134 = .ok (.iconst 5, 1) := by decide +kernel
theorem dX12_ruleLine_135 : decode cX12_ruleLine 135 = .ok (.goto 18, 3) := by decide +kernel
theorem dX12_ruleLine_138 : decode cX12_ruleLine 138 = .ok (.aload_n 0, 1) := by decide +kernel
theorem dX12_ruleLine_139 : decode cX12_ruleLine 139 = .ok (.bipush 61, 2) := by decide +kernel
theorem dX12_ruleLine_141 : decode cX12_ruleLine 141 = .ok (.invokevirtual 145, 3) := by decide +kernel
theorem dX12_ruleLine_144 : decode cX12_ruleLine 144 = .ok (.ifCond .eq 8, 3) := by decide +kernel
theorem dX12_ruleLine_147 : decode cX12_ruleLine 147 = .ok (.bipush 6, 2) := by decide +kernel
theorem dX12_ruleLine_149 : decode cX12_ruleLine 149 = .ok (.goto 4, 3) := by decide +kernel
theorem dX12_ruleLine_152 : decode cX12_ruleLine 152 = .ok (.iconst (-1), 1) := by decide +kernel
theorem dX12_ruleLine_153 : decode cX12_ruleLine 153 = .ok (.istore_n 3, 1) := by decide +kernel
theorem dX12_ruleLine_154 : decode cX12_ruleLine 154 = .ok (.iload_n 3, 1) := by decide +kernel
theorem dX12_ruleLine_155 : decode cX12_ruleLine 155 = .ok (.iconst (-1), 1) := by decide +kernel
theorem dX12_ruleLine_156 : decode cX12_ruleLine 156 = .ok (.if_icmp .ne 5, 3) := by decide +kernel
theorem dX12_ruleLine_159 : decode cX12_ruleLine 159 = .ok (.iconst 0, 1) := by decide +kernel
theorem dX12_ruleLine_160 : decode cX12_ruleLine 160 = .ok (.ireturn, 1) := by decide +kernel
theorem dX12_ruleLine_161 : decode cX12_ruleLine 161 = .ok (.aload_n 0, 1) := by decide +kernel
theorem dX12_ruleLine_162 : decode cX12_ruleLine 162 = .ok (.invokevirtual 148, 3) := by decide +kernel
theorem dX12_ruleLine_165 : decode cX12_ruleLine 165 = .ok (.aload_n 0, 1) := by decide +kernel
theorem dX12_ruleLine_166 : decode cX12_ruleLine 166 = .ok (.invokevirtual 284, 3) := by decide +kernel
theorem dX12_ruleLine_169 : decode cX12_ruleLine 169 = .ok (.ifCond .ne 5, 3) := by decide +kernel
theorem dX12_ruleLine_172 : decode cX12_ruleLine 172 = .ok (.iconst 0, 1) := by decide +kernel
theorem dX12_ruleLine_173 : decode cX12_ruleLine 173 = .ok (.ireturn, 1) := by decide +kernel
theorem dX12_ruleLine_174 : decode cX12_ruleLine 174 = .ok (.aload_n 0, 1) := by decide +kernel
theorem dX12_ruleLine_175 : decode cX12_ruleLine 175 = .ok (.iload_n 3, 1) := by decide +kernel
theorem dX12_ruleLine_176 : decode cX12_ruleLine 176 = .ok (.iconst 0, 1) := by decide +kernel
theorem dX12_ruleLine_177 : decode cX12_ruleLine 177 = .ok (.invokevirtual 248, 3) := by decide +kernel
theorem dX12_ruleLine_180 : decode cX12_ruleLine 180 = .ok (.aload_n 0, 1) := by decide +kernel
theorem dX12_ruleLine_181 : decode cX12_ruleLine 181 = .ok (.ldc_w 287, 3) := by decide +kernel
theorem dX12_ruleLine_184 : decode cX12_ruleLine 184 = .ok (.invokevirtual 156, 3) := by decide +kernel
theorem dX12_ruleLine_187 : decode cX12_ruleLine 187 = .ok (.istore_n 2, 1) := by decide +kernel
theorem dX12_ruleLine_188 : decode cX12_ruleLine 188 = .ok (.goto (-80), 3) := by decide +kernel
theorem dX12_ruleLine_191 : decode cX12_ruleLine 191 = .ok (.aload_n 0, 1) := by decide +kernel
theorem dX12_ruleLine_192 : decode cX12_ruleLine 192 = .ok (.bipush 7, 2) := by decide +kernel
theorem dX12_ruleLine_194 : decode cX12_ruleLine 194 = .ok (.iload_n 1, 1) := by decide +kernel
theorem dX12_ruleLine_195 : decode cX12_ruleLine 195 = .ok (.invokevirtual 248, 3) := by decide +kernel
theorem dX12_ruleLine_198 : decode cX12_ruleLine 198 = .ok (.aload_n 0, 1) := by decide +kernel
theorem dX12_ruleLine_199 : decode cX12_ruleLine 199 = .ok (.dup, 1) := by decide +kernel
theorem dX12_ruleLine_200 : decode cX12_ruleLine 200 = .ok (.getfield 271, 3) := by decide +kernel
theorem dX12_ruleLine_203 : decode cX12_ruleLine 203 = .ok (.iconst 1, 1) := by decide +kernel
theorem dX12_ruleLine_204 : decode cX12_ruleLine 204 = .ok (.iadd, 1) := by decide +kernel
theorem dX12_ruleLine_205 : decode cX12_ruleLine 205 = .ok (.putfield 271, 3) := by decide +kernel
theorem dX12_ruleLine_208 : decode cX12_ruleLine 208 = .ok (.aload_n 0, 1) := by decide +kernel
theorem dX12_ruleLine_209 : decode cX12_ruleLine 209 = .ok (.invokevirtual 183, 3) := by decide +kernel
theorem dX12_ruleLine_212 : decode cX12_ruleLine 212 = .ok (.ireturn, 1) := by decide +kernel
theorem dX12_rulesFault_0 : decode cX12_rulesFault 0 = .ok (.aload_n 0, 1) := by decide +kernel
theorem dX12_rulesFault_1 : decode cX12_rulesFault 1 = .ok (.iconst 0, 1) := by decide +kernel
theorem dX12_rulesFault_2 : decode cX12_rulesFault 2 = .ok (.putfield 271, 3) := by decide +kernel
theorem dX12_rulesFault_5 : decode cX12_rulesFault 5 = .ok (.aload_n 0, 1) := by decide +kernel
theorem dX12_rulesFault_6 : decode cX12_rulesFault 6 = .ok (.iconst 0, 1) := by decide +kernel
theorem dX12_rulesFault_7 : decode cX12_rulesFault 7 = .ok (.putfield 238, 3) := by decide +kernel
theorem dX12_rulesFault_10 : decode cX12_rulesFault 10 = .ok (.aload_n 0, 1) := by decide +kernel
theorem dX12_rulesFault_11 : decode cX12_rulesFault 11 = .ok (.iconst 0, 1) := by decide +kernel
theorem dX12_rulesFault_12 : decode cX12_rulesFault 12 = .ok (.putfield 102, 3) := by decide +kernel
theorem dX12_rulesFault_15 : decode cX12_rulesFault 15 = .ok (.aload_n 0, 1) := by decide +kernel
theorem dX12_rulesFault_16 : decode cX12_rulesFault 16 = .ok (.invokevirtual 148, 3) := by decide +kernel
theorem dX12_rulesFault_19 : decode cX12_rulesFault 19 = .ok (.aload_n 0, 1) := by decide +kernel
theorem dX12_rulesFault_20 : decode cX12_rulesFault 20 = .ok (.getfield 112, 3) := by decide +kernel
theorem dX12_rulesFault_23 : decode cX12_rulesFault 23 = .ok (.ifCond .eq 15, 3) := by decide +kernel
theorem dX12_rulesFault_26 : decode cX12_rulesFault 26 = .ok (.aload_n 0, 1) := by decide +kernel
theorem dX12_rulesFault_27 : decode cX12_rulesFault 27 = .ok (.invokevirtual 289, 3) := by decide +kernel
theorem dX12_rulesFault_30 : decode cX12_rulesFault 30 = .ok (.ifCond .ne (-11), 3) := by decide +kernel
theorem dX12_rulesFault_33 : decode cX12_rulesFault 33 = .ok (.aload_n 0, 1) := by decide +kernel
theorem dX12_rulesFault_34 : decode cX12_rulesFault 34 = .ok (.getfield 105, 3) := by decide +kernel
theorem dX12_rulesFault_37 : decode cX12_rulesFault 37 = .ok (.ireturn, 1) := by decide +kernel
theorem dX12_rulesFault_38 : decode cX12_rulesFault 38 = .ok (.aload_n 0, 1) := by decide +kernel
theorem dX12_rulesFault_39 : decode cX12_rulesFault 39 = .ok (.getfield 271, 3) := by decide +kernel
theorem dX12_rulesFault_42 : decode cX12_rulesFault 42 = .ok (.ifCond .ne 10, 3) := by decide +kernel
theorem dX12_rulesFault_45 : decode cX12_rulesFault 45 = .ok (.aload_n 0, 1) := by decide +kernel
theorem dX12_rulesFault_46 : decode cX12_rulesFault 46 = .ok (.getfield 105, 3) := by decide +kernel
theorem dX12_rulesFault_49 : decode cX12_rulesFault 49 = .ok (.goto 4, 3) := by decide +kernel
theorem dX12_rulesFault_52 : decode cX12_rulesFault 52 = .ok (.iconst (-1), 1) := by decide +kernel
theorem dX12_rulesFault_53 : decode cX12_rulesFault 53 = .ok (.ireturn, 1) := by decide +kernel
theorem dX12_fault_0 : decode cX12_fault 0 = .ok (.iload_n 1, 1) := by decide +kernel
theorem dX12_fault_1 : decode cX12_fault 1 = .ok (.ifCond .ne 10, 3) := by decide +kernel
theorem dX12_fault_4 : decode cX12_fault 4 = .ok (.aload_n 0, 1) := by decide +kernel
theorem dX12_fault_5 : decode cX12_fault 5 = .ok (.invokevirtual 213, 3) := by decide +kernel
theorem dX12_fault_8 : decode cX12_fault 8 = .ok (.goto 18, 3) := by decide +kernel
theorem dX12_fault_11 : decode cX12_fault 11 = .ok (.iload_n 1, 1) := by decide +kernel
theorem dX12_fault_12 : decode cX12_fault 12 = .ok (.iconst 1, 1) := by decide +kernel
theorem dX12_fault_13 : decode cX12_fault 13 = .ok (.if_icmp .ne 10, 3) := by decide +kernel
theorem dX12_fault_16 : decode cX12_fault 16 = .ok (.aload_n 0, 1) := by decide +kernel
theorem dX12_fault_17 : decode cX12_fault 17 = .ok (.invokevirtual 292, 3) := by decide +kernel
theorem dX12_fault_20 : decode cX12_fault 20 = .ok (.goto 6, 3) := by decide +kernel
theorem dX12_fault_23 : decode cX12_fault 23 = .ok (.ldc_w 295, 3) := by decide +kernel
theorem dX12_fault_26 : decode cX12_fault 26 = .ok (.ireturn, 1) := by decide +kernel
theorem dX12_rules_0 : decode cX12_rules 0 = .ok (.aload_n 0, 1) := by decide +kernel
theorem dX12_rules_1 : decode cX12_rules 1 = .ok (.invokevirtual 292, 3) := by decide +kernel
theorem dX12_rules_4 : decode cX12_rules 4 = .ok (.iconst (-1), 1) := by decide +kernel
theorem dX12_rules_5 : decode cX12_rules 5 = .ok (.if_icmp .eq 5, 3) := by decide +kernel
theorem dX12_rules_8 : decode cX12_rules 8 = .ok (.iconst (-1), 1) := by decide +kernel
theorem dX12_rules_9 : decode cX12_rules 9 = .ok (.ireturn, 1) := by decide +kernel
theorem dX12_rules_10 : decode cX12_rules 10 = .ok (.aload_n 0, 1) := by decide +kernel
theorem dX12_rules_11 : decode cX12_rules 11 = .ok (.aload_n 0, 1) := by decide +kernel
theorem dX12_rules_12 : decode cX12_rules 12 = .ok (.getfield 271, 3) := by decide +kernel
theorem dX12_rules_15 : decode cX12_rules 15 = .ok (.putfield 296, 3) := by decide +kernel
theorem dX12_rules_18 : decode cX12_rules 18 = .ok (.iconst 0, 1) := by decide +kernel
theorem dX12_rules_19 : decode cX12_rules 19 = .ok (.istore_n 1, 1) := by decide +kernel
theorem dX12_rules_20 : decode cX12_rules 20 = .ok (.iload_n 1, 1) := by decide +kernel
theorem dX12_rules_21 : decode cX12_rules 21 = .ok (.iconst 2, 1) := by decide +kernel
theorem dX12_rules_22 : decode cX12_rules 22 = .ok (.aload_n 0, 1) := by decide +kernel
theorem dX12_rules_23 : decode cX12_rules 23 = .ok (.getfield 238, 3) := by decide +kernel
theorem dX12_rules_26 : decode cX12_rules 26 = .ok (.imul, 1) := by decide +kernel
theorem dX12_rules_27 : decode cX12_rules 27 = .ok (.if_icmp .ge 21, 3) := by decide +kernel
theorem dX12_rules_30 : decode cX12_rules 30 = .ok (.aload_n 0, 1) := by decide +kernel
theorem dX12_rules_31 : decode cX12_rules 31 = .ok (.getfield 64, 3) := by decide +kernel
theorem dX12_rules_34 : decode cX12_rules 34 = .ok (.iload_n 1, 1) := by decide +kernel
theorem dX12_rules_35 : decode cX12_rules 35 = .ok (.aload_n 0, 1) := by decide +kernel
theorem dX12_rules_36 : decode cX12_rules 36 = .ok (.getfield 61, 3) := by decide +kernel
theorem dX12_rules_39 : decode cX12_rules 39 = .ok (.iload_n 1, 1) := by decide +kernel
theorem dX12_rules_40 : decode cX12_rules 40 = .ok (.iaload, 1) := by decide +kernel
theorem dX12_rules_41 : decode cX12_rules 41 = .ok (.iastore, 1) := by decide +kernel
theorem dX12_rules_42 : decode cX12_rules 42 = .ok (.iinc 1 1, 3) := by decide +kernel
theorem dX12_rules_45 : decode cX12_rules 45 = .ok (.goto (-25), 3) := by decide +kernel
theorem dX12_rules_48 : decode cX12_rules 48 = .ok (.aload_n 0, 1) := by decide +kernel
theorem dX12_rules_49 : decode cX12_rules 49 = .ok (.iconst 0, 1) := by decide +kernel
theorem dX12_rules_50 : decode cX12_rules 50 = .ok (.putfield 94, 3) := by decide +kernel
theorem dX12_rules_53 : decode cX12_rules 53 = .ok (.aload_n 0, 1) := by decide +kernel
theorem dX12_rules_54 : decode cX12_rules 54 = .ok (.getfield 296, 3) := by decide +kernel
theorem dX12_rules_57 : decode cX12_rules 57 = .ok (.ireturn, 1) := by decide +kernel
theorem dX12_sound_0 : decode cX12_sound 0 = .ok (.aload_n 0, 1) := by decide +kernel
theorem dX12_sound_1 : decode cX12_sound 1 = .ok (.getfield 216, 3) := by decide +kernel
theorem dX12_sound_4 : decode cX12_sound 4 = .ok (.ifCond .eq 39, 3) := by decide +kernel
theorem dX12_sound_7 : decode cX12_sound 7 = .ok (.iload_n 1, 1) := by decide +kernel
theorem dX12_sound_8 : decode cX12_sound 8 = .ok (.iconst 0, 1) := by decide +kernel
theorem dX12_sound_9 : decode cX12_sound 9 = .ok (.aload_n 0, 1) := by decide +kernel
theorem dX12_sound_10 : decode cX12_sound 10 = .ok (.getfield 220, 3) := by decide +kernel
theorem dX12_sound_13 : decode cX12_sound 13 = .ok (.iconst 1, 1) := by decide +kernel
theorem dX12_sound_14 : decode cX12_sound 14 = .ok (.isub, 1) := by decide +kernel
theorem dX12_sound_15 : decode cX12_sound 15 = .ok (.invokestatic 98, 3) := by decide +kernel
theorem dX12_sound_18 : decode cX12_sound 18 = .ok (.ifCond .eq 25, 3) := by decide +kernel
theorem dX12_sound_21 : decode cX12_sound 21 = .ok (.iload_n 2, 1) := by decide +kernel
theorem dX12_sound_22 : decode cX12_sound 22 = .ok (.iconst 0, 1) := by decide +kernel
theorem dX12_sound_23 : decode cX12_sound 23 = .ok (.iconst 2, 1) := by decide +kernel
theorem dX12_sound_24 : decode cX12_sound 24 = .ok (.invokestatic 98, 3) := by decide +kernel
theorem dX12_sound_27 : decode cX12_sound 27 = .ok (.ifCond .eq 16, 3) := by decide +kernel
theorem dX12_sound_30 : decode cX12_sound 30 = .ok (.aload_n 0, 1) := by decide +kernel
theorem dX12_sound_31 : decode cX12_sound 31 = .ok (.getfield 31, 3) := by decide +kernel
theorem dX12_sound_34 : decode cX12_sound 34 = .ok (.iconst 3, 1) := by decide +kernel
theorem dX12_sound_35 : decode cX12_sound 35 = .ok (.iload_n 1, 1) := by decide +kernel
theorem dX12_sound_36 : decode cX12_sound 36 = .ok (.imul, 1) := by decide +kernel
theorem dX12_sound_37 : decode cX12_sound 37 = .ok (.iload_n 2, 1) := by decide +kernel
theorem dX12_sound_38 : decode cX12_sound 38 = .ok (.iadd, 1) := by decide +kernel
theorem dX12_sound_39 : decode cX12_sound 39 = .ok (.iaload, 1) := by decide +kernel
theorem dX12_sound_40 : decode cX12_sound 40 = .ok (.goto 4, 3) := by decide +kernel
theorem dX12_sound_43 : decode cX12_sound 43 = .ok (.iconst (-1), 1) := by decide +kernel
theorem dX12_sound_44 : decode cX12_sound 44 = .ok (.ireturn, 1) := by decide +kernel
theorem dX12_areChanges_0 : decode cX12_areChanges 0 = .ok (.iload_n 0, 1) := by decide +kernel
theorem dX12_areChanges_1 : decode cX12_areChanges 1 = .ok (.bipush (-30), 2) := by decide +kernel
theorem dX12_areChanges_3 : decode cX12_areChanges 3 = .ok (.bipush 30, 2) := by decide +kernel
theorem dX12_areChanges_5 : decode cX12_areChanges 5 = .ok (.invokestatic 98, 3) := by decide +kernel
theorem dX12_areChanges_8 : decode cX12_areChanges 8 = .ok (.ifCond .eq 28, 3) := by decide +kernel
theorem dX12_areChanges_11 : decode cX12_areChanges 11 = .ok (.iload_n 1, 1) := by decide +kernel
theorem dX12_areChanges_12 : decode cX12_areChanges 12 = .ok (.bipush (-30), 2) := by decide +kernel
theorem dX12_areChanges_14 : decode cX12_areChanges 14 = .ok (.bipush 30, 2) := by decide +kernel
theorem dX12_areChanges_16 : decode cX12_areChanges 16 = .ok (.invokestatic 98, 3) := by decide +kernel
theorem dX12_areChanges_19 : decode cX12_areChanges 19 = .ok (.ifCond .eq 17, 3) := by decide +kernel
theorem dX12_areChanges_22 : decode cX12_areChanges 22 = .ok (.iload_n 2, 1) := by decide +kernel
theorem dX12_areChanges_23 : decode cX12_areChanges 23 = .ok (.iconst 0, 1) := by decide +kernel
theorem dX12_areChanges_24 : decode cX12_areChanges 24 = .ok (.bipush 16, 2) := by decide +kernel
theorem dX12_areChanges_26 : decode cX12_areChanges 26 = .ok (.invokestatic 98, 3) := by decide +kernel
theorem dX12_areChanges_29 : decode cX12_areChanges 29 = .ok (.ifCond .eq 7, 3) := by decide +kernel
theorem dX12_areChanges_32 : decode cX12_areChanges 32 = .ok (.iconst 1, 1) := by decide +kernel
theorem dX12_areChanges_33 : decode cX12_areChanges 33 = .ok (.goto 4, 3) := by decide +kernel
theorem dX12_areChanges_36 : decode cX12_areChanges 36 = .ok (.iconst 0, 1) := by decide +kernel
theorem dX12_areChanges_37 : decode cX12_areChanges 37 = .ok (.ireturn, 1) := by decide +kernel
theorem dX12_person_0 : decode cX12_person 0 = .ok (.aload_n 0, 1) := by decide +kernel
theorem dX12_person_1 : decode cX12_person 1 = .ok (.getfield 216, 3) := by decide +kernel
theorem dX12_person_4 : decode cX12_person 4 = .ok (.ifCond .eq 36, 3) := by decide +kernel
theorem dX12_person_7 : decode cX12_person 7 = .ok (.iload_n 3, 1) := by decide +kernel
theorem dX12_person_8 : decode cX12_person 8 = .ok (.ifCond .lt 32, 3) := by decide +kernel
theorem dX12_person_11 : decode cX12_person 11 = .ok (.iload_n 3, 1) := by decide +kernel
theorem dX12_person_12 : decode cX12_person 12 = .ok (.bipush 100, 2) := by decide +kernel
theorem dX12_person_14 : decode cX12_person 14 = .ok (.idiv, 1) := by decide +kernel
theorem dX12_person_15 : decode cX12_person 15 = .ok (.iconst 3, 1) := by decide +kernel
theorem dX12_person_16 : decode cX12_person 16 = .ok (.if_icmp .gt 24, 3) := by decide +kernel
theorem dX12_person_19 : decode cX12_person 19 = .ok (.iload_n 1, 1) := by decide +kernel
theorem dX12_person_20 : decode cX12_person 20 = .ok (.iload_n 2, 1) := by decide +kernel
theorem dX12_person_21 : decode cX12_person 21 = .ok (.iload_n 3, 1) := by decide +kernel
theorem dX12_person_22 : decode cX12_person 22 = .ok (.bipush 100, 2) := by decide +kernel
theorem dX12_person_24 : decode cX12_person 24 = .ok (.irem, 1) := by decide +kernel
theorem dX12_person_25 : decode cX12_person 25 = .ok (.invokestatic 299, 3) := by decide +kernel
theorem dX12_person_28 : decode cX12_person 28 = .ok (.ifCond .eq 12, 3) := by decide +kernel
theorem dX12_person_31 : decode cX12_person 31 = .ok (.aload_n 0, 1) := by decide +kernel
theorem dX12_person_32 : decode cX12_person 32 = .ok (.getfield 232, 3) := by decide +kernel
theorem dX12_person_35 : decode cX12_person 35 = .ok (.bipush 10, 2) := by decide +kernel
theorem dX12_person_37 : decode cX12_person 37 = .ok (.if_icmp .ne 5, 3) := by decide +kernel
theorem dX12_person_40 : decode cX12_person 40 = .ok (.iconst (-1), 1) := by decide +kernel
theorem dX12_person_41 : decode cX12_person 41 = .ok (.ireturn, 1) := by decide +kernel
theorem dX12_person_42 : decode cX12_person 42 = .ok (.aload_n 0, 1) := by decide +kernel
theorem dX12_person_43 : decode cX12_person 43 = .ok (.getfield 40, 3) := by decide +kernel
theorem dX12_person_46 : decode cX12_person 46 = .ok (.iconst 4, 1) := by decide +kernel
theorem dX12_person_47 : decode cX12_person 47 = .ok (.aload_n 0, 1) := by decide +kernel
theorem dX12_person_48 : decode cX12_person 48 = .ok (.getfield 232, 3) := by decide +kernel
theorem dX12_person_51 : decode cX12_person 51 = .ok (.imul, 1) := by decide +kernel
theorem dX12_person_52 : decode cX12_person 52 = .ok (.iload_n 1, 1) := by decide +kernel
theorem dX12_person_53 : decode cX12_person 53 = .ok (.iastore, 1) := by decide +kernel
theorem dX12_person_54 : decode cX12_person 54 = .ok (.aload_n 0, 1) := by decide +kernel
theorem dX12_person_55 : decode cX12_person 55 = .ok (.getfield 40, 3) := by decide +kernel
theorem dX12_person_58 : decode cX12_person 58 = .ok (.iconst 4, 1) := by decide +kernel
theorem dX12_person_59 : decode cX12_person 59 = .ok (.aload_n 0, 1) := by decide +kernel
theorem dX12_person_60 : decode cX12_person 60 = .ok (.getfield 232, 3) := by decide +kernel
theorem dX12_person_63 : decode cX12_person 63 = .ok (.imul, 1) := by decide +kernel
theorem dX12_person_64 : decode cX12_person 64 = .ok (.iconst 1, 1) := by decide +kernel
theorem dX12_person_65 : decode cX12_person 65 = .ok (.iadd, 1) := by decide +kernel
theorem dX12_person_66 : decode cX12_person 66 = .ok (.iload_n 2, 1) := by decide +kernel
theorem dX12_person_67 : decode cX12_person 67 = .ok (.iastore, 1) := by decide +kernel
theorem dX12_person_68 : decode cX12_person 68 = .ok (.aload_n 0, 1) := by decide +kernel
theorem dX12_person_69 : decode cX12_person 69 = .ok (.getfield 40, 3) := by decide +kernel
theorem dX12_person_72 : decode cX12_person 72 = .ok (.iconst 4, 1) := by decide +kernel
theorem dX12_person_73 : decode cX12_person 73 = .ok (.aload_n 0, 1) := by decide +kernel
theorem dX12_person_74 : decode cX12_person 74 = .ok (.getfield 232, 3) := by decide +kernel
theorem dX12_person_77 : decode cX12_person 77 = .ok (.imul, 1) := by decide +kernel
theorem dX12_person_78 : decode cX12_person 78 = .ok (.iconst 2, 1) := by decide +kernel
theorem dX12_person_79 : decode cX12_person 79 = .ok (.iadd, 1) := by decide +kernel
theorem dX12_person_80 : decode cX12_person 80 = .ok (.iload_n 3, 1) := by decide +kernel
theorem dX12_person_81 : decode cX12_person 81 = .ok (.bipush 100, 2) := by decide +kernel
theorem dX12_person_83 : decode cX12_person 83 = .ok (.irem, 1) := by decide +kernel
theorem dX12_person_84 : decode cX12_person 84 = .ok (.iastore, 1) := by decide +kernel
theorem dX12_person_85 : decode cX12_person 85 = .ok (.aload_n 0, 1) := by decide +kernel
theorem dX12_person_86 : decode cX12_person 86 = .ok (.getfield 40, 3) := by decide +kernel
theorem dX12_person_89 : decode cX12_person 89 = .ok (.iconst 4, 1) := by decide +kernel
theorem dX12_person_90 : decode cX12_person 90 = .ok (.aload_n 0, 1) := by decide +kernel
theorem dX12_person_91 : decode cX12_person 91 = .ok (.getfield 232, 3) := by decide +kernel
theorem dX12_person_94 : decode cX12_person 94 = .ok (.imul, 1) := by decide +kernel
theorem dX12_person_95 : decode cX12_person 95 = .ok (.iconst 3, 1) := by decide +kernel
theorem dX12_person_96 : decode cX12_person 96 = .ok (.iadd, 1) := by decide +kernel
theorem dX12_person_97 : decode cX12_person 97 = .ok (.iload_n 3, 1) := by decide +kernel
theorem dX12_person_98 : decode cX12_person 98 = .ok (.bipush 100, 2) := by decide +kernel
theorem dX12_person_100 : decode cX12_person 100 = .ok (.idiv, 1) := by decide +kernel
theorem dX12_person_101 : decode cX12_person 101 = .ok (.iastore, 1) := by decide +kernel
theorem dX12_person_102 : decode cX12_person 102 = .ok (.aload_n 0, 1) := by decide +kernel
theorem dX12_person_103 : decode cX12_person 103 = .ok (.dup, 1) := by decide +kernel
theorem dX12_person_104 : decode cX12_person 104 = .ok (.getfield 232, 3) := by decide +kernel
theorem dX12_person_107 : decode cX12_person 107 = .ok (.iconst 1, 1) := by decide +kernel
theorem dX12_person_108 : decode cX12_person 108 = .ok (.iadd, 1) := by decide +kernel
theorem dX12_person_109 : decode cX12_person 109 = .ok (.putfield 232, 3) := by decide +kernel
theorem dX12_person_112 : decode cX12_person 112 = .ok (.aload_n 0, 1) := by decide +kernel
theorem dX12_person_113 : decode cX12_person 113 = .ok (.getfield 232, 3) := by decide +kernel
theorem dX12_person_116 : decode cX12_person 116 = .ok (.iconst 1, 1) := by decide +kernel
theorem dX12_person_117 : decode cX12_person 117 = .ok (.isub, 1) := by decide +kernel
theorem dX12_person_118 : decode cX12_person 118 = .ok (.ireturn, 1) := by decide +kernel
theorem dX12_isPerson_0 : decode cX12_isPerson 0 = .ok (.aload_n 0, 1) := by decide +kernel
theorem dX12_isPerson_1 : decode cX12_isPerson 1 = .ok (.getfield 216, 3) := by decide +kernel
theorem dX12_isPerson_4 : decode cX12_isPerson 4 = .ok (.ifCond .eq 21, 3) := by decide +kernel
theorem dX12_isPerson_7 : decode cX12_isPerson 7 = .ok (.iload_n 1, 1) := by decide +kernel
theorem dX12_isPerson_8 : decode cX12_isPerson 8 = .ok (.iconst 0, 1) := by decide +kernel
theorem dX12_isPerson_9 : decode cX12_isPerson 9 = .ok (.aload_n 0, 1) := by decide +kernel
theorem dX12_isPerson_10 : decode cX12_isPerson 10 = .ok (.getfield 232, 3) := by decide +kernel
theorem dX12_isPerson_13 : decode cX12_isPerson 13 = .ok (.iconst 1, 1) := by decide +kernel
theorem dX12_isPerson_14 : decode cX12_isPerson 14 = .ok (.isub, 1) := by decide +kernel
theorem dX12_isPerson_15 : decode cX12_isPerson 15 = .ok (.invokestatic 98, 3) := by decide +kernel
theorem dX12_isPerson_18 : decode cX12_isPerson 18 = .ok (.ifCond .eq 7, 3) := by decide +kernel
theorem dX12_isPerson_21 : decode cX12_isPerson 21 = .ok (.iconst 1, 1) := by decide +kernel
theorem dX12_isPerson_22 : decode cX12_isPerson 22 = .ok (.goto 4, 3) := by decide +kernel
theorem dX12_isPerson_25 : decode cX12_isPerson 25 = .ok (.iconst 0, 1) := by decide +kernel
theorem dX12_isPerson_26 : decode cX12_isPerson 26 = .ok (.ireturn, 1) := by decide +kernel
theorem dX12_who_0 : decode cX12_who 0 = .ok (.aload_n 0, 1) := by decide +kernel
theorem dX12_who_1 : decode cX12_who 1 = .ok (.iload_n 1, 1) := by decide +kernel
theorem dX12_who_2 : decode cX12_who 2 = .ok (.invokevirtual 302, 3) := by decide +kernel
theorem dX12_who_5 : decode cX12_who 5 = .ok (.ifCond .eq 25, 3) := by decide +kernel
theorem dX12_who_8 : decode cX12_who 8 = .ok (.iload_n 2, 1) := by decide +kernel
theorem dX12_who_9 : decode cX12_who 9 = .ok (.iconst 0, 1) := by decide +kernel
theorem dX12_who_10 : decode cX12_who 10 = .ok (.iconst 3, 1) := by decide +kernel
theorem dX12_who_11 : decode cX12_who 11 = .ok (.invokestatic 98, 3) := by decide +kernel
theorem dX12_who_14 : decode cX12_who 14 = .ok (.ifCond .eq 16, 3) := by decide +kernel
theorem dX12_who_17 : decode cX12_who 17 = .ok (.aload_n 0, 1) := by decide +kernel
theorem dX12_who_18 : decode cX12_who 18 = .ok (.getfield 40, 3) := by decide +kernel
theorem dX12_who_21 : decode cX12_who 21 = .ok (.iconst 4, 1) := by decide +kernel
theorem dX12_who_22 : decode cX12_who 22 = .ok (.iload_n 1, 1) := by decide +kernel
theorem dX12_who_23 : decode cX12_who 23 = .ok (.imul, 1) := by decide +kernel
theorem dX12_who_24 : decode cX12_who 24 = .ok (.iload_n 2, 1) := by decide +kernel
theorem dX12_who_25 : decode cX12_who 25 = .ok (.iadd, 1) := by decide +kernel
theorem dX12_who_26 : decode cX12_who 26 = .ok (.iaload, 1) := by decide +kernel
theorem dX12_who_27 : decode cX12_who 27 = .ok (.goto 6, 3) := by decide +kernel
theorem dX12_who_30 : decode cX12_who 30 = .ok (.ldc_w 295, 3) := by decide +kernel
theorem dX12_who_33 : decode cX12_who 33 = .ok (.ireturn, 1) := by decide +kernel
theorem dX12_becomes_0 : decode cX12_becomes 0 = .ok (.aload_n 0, 1) := by decide +kernel
theorem dX12_becomes_1 : decode cX12_becomes 1 = .ok (.iload_n 1, 1) := by decide +kernel
theorem dX12_becomes_2 : decode cX12_becomes 2 = .ok (.invokevirtual 302, 3) := by decide +kernel
theorem dX12_becomes_5 : decode cX12_becomes 5 = .ok (.ifCond .eq 13, 3) := by decide +kernel
theorem dX12_becomes_8 : decode cX12_becomes 8 = .ok (.iload_n 2, 1) := by decide +kernel
theorem dX12_becomes_9 : decode cX12_becomes 9 = .ok (.iload_n 3, 1) := by decide +kernel
theorem dX12_becomes_10 : decode cX12_becomes 10 = .ok (.iload 4, 2) := by decide +kernel
theorem dX12_becomes_12 : decode cX12_becomes 12 = .ok (.invokestatic 299, 3) := by decide +kernel
theorem dX12_becomes_15 : decode cX12_becomes 15 = .ok (.ifCond .ne 5, 3) := by decide +kernel
theorem dX12_becomes_18 : decode cX12_becomes 18 = .ok (.iconst 0, 1) := by decide +kernel
theorem dX12_becomes_19 : decode cX12_becomes 19 = .ok (.ireturn, 1) := by decide +kernel
theorem dX12_becomes_20 : decode cX12_becomes 20 = .ok (.aload_n 0, 1) := by decide +kernel
theorem dX12_becomes_21 : decode cX12_becomes 21 = .ok (.getfield 40, 3) := by decide +kernel
theorem dX12_becomes_24 : decode cX12_becomes 24 = .ok (.iconst 4, 1) := by decide +kernel
theorem dX12_becomes_25 : decode cX12_becomes 25 = .ok (.iload_n 1, 1) := by decide +kernel
theorem dX12_becomes_26 : decode cX12_becomes 26 = .ok (.imul, 1) := by decide +kernel
theorem dX12_becomes_27 : decode cX12_becomes 27 = .ok (.iload_n 2, 1) := by decide +kernel
theorem dX12_becomes_28 : decode cX12_becomes 28 = .ok (.iastore, 1) := by decide +kernel
theorem dX12_becomes_29 : decode cX12_becomes 29 = .ok (.aload_n 0, 1) := by decide +kernel
theorem dX12_becomes_30 : decode cX12_becomes 30 = .ok (.getfield 40, 3) := by decide +kernel
theorem dX12_becomes_33 : decode cX12_becomes 33 = .ok (.iconst 4, 1) := by decide +kernel
theorem dX12_becomes_34 : decode cX12_becomes 34 = .ok (.iload_n 1, 1) := by decide +kernel
theorem dX12_becomes_35 : decode cX12_becomes 35 = .ok (.imul, 1) := by decide +kernel
theorem dX12_becomes_36 : decode cX12_becomes 36 = .ok (.iconst 1, 1) := by decide +kernel
theorem dX12_becomes_37 : decode cX12_becomes 37 = .ok (.iadd, 1) := by decide +kernel
theorem dX12_becomes_38 : decode cX12_becomes 38 = .ok (.iload_n 3, 1) := by decide +kernel
theorem dX12_becomes_39 : decode cX12_becomes 39 = .ok (.iastore, 1) := by decide +kernel
theorem dX12_becomes_40 : decode cX12_becomes 40 = .ok (.aload_n 0, 1) := by decide +kernel
theorem dX12_becomes_41 : decode cX12_becomes 41 = .ok (.getfield 40, 3) := by decide +kernel
theorem dX12_becomes_44 : decode cX12_becomes 44 = .ok (.iconst 4, 1) := by decide +kernel
theorem dX12_becomes_45 : decode cX12_becomes 45 = .ok (.iload_n 1, 1) := by decide +kernel
theorem dX12_becomes_46 : decode cX12_becomes 46 = .ok (.imul, 1) := by decide +kernel
theorem dX12_becomes_47 : decode cX12_becomes 47 = .ok (.iconst 2, 1) := by decide +kernel
theorem dX12_becomes_48 : decode cX12_becomes 48 = .ok (.iadd, 1) := by decide +kernel
theorem dX12_becomes_49 : decode cX12_becomes 49 = .ok (.iload 4, 2) := by decide +kernel
theorem dX12_becomes_51 : decode cX12_becomes 51 = .ok (.iastore, 1) := by decide +kernel
theorem dX12_becomes_52 : decode cX12_becomes 52 = .ok (.iconst 1, 1) := by decide +kernel
theorem dX12_becomes_53 : decode cX12_becomes 53 = .ok (.ireturn, 1) := by decide +kernel
theorem dX12_isTrial_0 : decode cX12_isTrial 0 = .ok (.aload_n 0, 1) := by decide +kernel
theorem dX12_isTrial_1 : decode cX12_isTrial 1 = .ok (.getfield 216, 3) := by decide +kernel
theorem dX12_isTrial_4 : decode cX12_isTrial 4 = .ok (.ifCond .eq 68, 3) := by decide +kernel
theorem dX12_isTrial_7 : decode cX12_isTrial 7 = .ok (.iload_n 1, 1) := by decide +kernel
theorem dX12_isTrial_8 : decode cX12_isTrial 8 = .ok (.ifCond .lt 64, 3) := by decide +kernel
theorem dX12_isTrial_11 : decode cX12_isTrial 11 = .ok (.iload_n 1, 1) := by decide +kernel
theorem dX12_isTrial_12 : decode cX12_isTrial 12 = .ok (.bipush 100, 2) := by decide +kernel
theorem dX12_isTrial_14 : decode cX12_isTrial 14 = .ok (.idiv, 1) := by decide +kernel
theorem dX12_isTrial_15 : decode cX12_isTrial 15 = .ok (.aload_n 0, 1) := by decide +kernel
theorem dX12_isTrial_16 : decode cX12_isTrial 16 = .ok (.getfield 232, 3) := by decide +kernel
theorem dX12_isTrial_19 : decode cX12_isTrial 19 = .ok (.if_icmp .ge 53, 3) := by decide +kernel
theorem dX12_isTrial_22 : decode cX12_isTrial 22 = .ok (.iload_n 1, 1) := by decide +kernel
theorem dX12_isTrial_23 : decode cX12_isTrial 23 = .ok (.bipush 10, 2) := by decide +kernel
theorem dX12_isTrial_25 : decode cX12_isTrial 25 = .ok (.idiv, 1) := by decide +kernel
theorem dX12_isTrial_26 : decode cX12_isTrial 26 = .ok (.bipush 10, 2) := by decide +kernel
theorem dX12_isTrial_28 : decode cX12_isTrial 28 = .ok (.irem, 1) := by decide +kernel
theorem dX12_isTrial_29 : decode cX12_isTrial 29 = .ok (.aload_n 0, 1) := by decide +kernel
theorem dX12_isTrial_30 : decode cX12_isTrial 30 = .ok (.getfield 220, 3) := by decide +kernel
theorem dX12_isTrial_33 : decode cX12_isTrial 33 = .ok (.if_icmp .ge 39, 3) := by decide +kernel
theorem dX12_isTrial_36 : decode cX12_isTrial 36 = .ok (.iload_n 1, 1) := by decide +kernel
theorem dX12_isTrial_37 : decode cX12_isTrial 37 = .ok (.bipush 10, 2) := by decide +kernel
theorem dX12_isTrial_39 : decode cX12_isTrial 39 = .ok (.irem, 1) := by decide +kernel
theorem dX12_isTrial_40 : decode cX12_isTrial 40 = .ok (.aload_n 0, 1) := by decide +kernel
theorem dX12_isTrial_41 : decode cX12_isTrial 41 = .ok (.getfield 220, 3) := by decide +kernel
theorem dX12_isTrial_44 : decode cX12_isTrial 44 = .ok (.if_icmp .ge 28, 3) := by decide +kernel
theorem dX12_isTrial_47 : decode cX12_isTrial 47 = .ok (.iload_n 2, 1) := by decide +kernel
theorem dX12_isTrial_48 : decode cX12_isTrial 48 = .ok (.iconst 0, 1) := by decide +kernel
theorem dX12_isTrial_49 : decode cX12_isTrial 49 = .ok (.bipush 99, 2) := by decide +kernel
theorem dX12_isTrial_51 : decode cX12_isTrial 51 = .ok (.invokestatic 98, 3) := by decide +kernel
theorem dX12_isTrial_54 : decode cX12_isTrial 54 = .ok (.ifCond .eq 18, 3) := by decide +kernel
theorem dX12_isTrial_57 : decode cX12_isTrial 57 = .ok (.iload_n 3, 1) := by decide +kernel
theorem dX12_isTrial_58 : decode cX12_isTrial 58 = .ok (.bipush (-99), 2) := by decide +kernel
theorem dX12_isTrial_60 : decode cX12_isTrial 60 = .ok (.bipush 99, 2) := by decide +kernel
theorem dX12_isTrial_62 : decode cX12_isTrial 62 = .ok (.invokestatic 98, 3) := by decide +kernel
theorem dX12_isTrial_65 : decode cX12_isTrial 65 = .ok (.ifCond .eq 7, 3) := by decide +kernel
theorem dX12_isTrial_68 : decode cX12_isTrial 68 = .ok (.iconst 1, 1) := by decide +kernel
theorem dX12_isTrial_69 : decode cX12_isTrial 69 = .ok (.goto 4, 3) := by decide +kernel
theorem dX12_isTrial_72 : decode cX12_isTrial 72 = .ok (.iconst 0, 1) := by decide +kernel
theorem dX12_isTrial_73 : decode cX12_isTrial 73 = .ok (.ireturn, 1) := by decide +kernel
theorem dX12_isLaw_0 : decode cX12_isLaw 0 = .ok (.iload_n 0, 1) := by decide +kernel
theorem dX12_isLaw_1 : decode cX12_isLaw 1 = .ok (.iconst 0, 1) := by decide +kernel
theorem dX12_isLaw_2 : decode cX12_isLaw 2 = .ok (.bipush 6, 2) := by decide +kernel
theorem dX12_isLaw_4 : decode cX12_isLaw 4 = .ok (.invokestatic 98, 3) := by decide +kernel
theorem dX12_isLaw_7 : decode cX12_isLaw 7 = .ok (.ireturn, 1) := by decide +kernel
theorem dX12_x_0 : decode cX12_x 0 = .ok (.aload_n 0, 1) := by decide +kernel
theorem dX12_x_1 : decode cX12_x 1 = .ok (.getfield 31, 3) := by decide +kernel
theorem dX12_x_4 : decode cX12_x 4 = .ok (.iconst 3, 1) := by decide +kernel
theorem dX12_x_5 : decode cX12_x 5 = .ok (.iload_n 1, 1) := by decide +kernel
theorem dX12_x_6 : decode cX12_x 6 = .ok (.imul, 1) := by decide +kernel
theorem dX12_x_7 : decode cX12_x 7 = .ok (.iaload, 1) := by decide +kernel
theorem dX12_x_8 : decode cX12_x 8 = .ok (.ireturn, 1) := by decide +kernel
theorem dX12_y_0 : decode cX12_y 0 = .ok (.aload_n 0, 1) := by decide +kernel
theorem dX12_y_1 : decode cX12_y 1 = .ok (.getfield 31, 3) := by decide +kernel
theorem dX12_y_4 : decode cX12_y 4 = .ok (.iconst 3, 1) := by decide +kernel
theorem dX12_y_5 : decode cX12_y 5 = .ok (.iload_n 1, 1) := by decide +kernel
theorem dX12_y_6 : decode cX12_y 6 = .ok (.imul, 1) := by decide +kernel
theorem dX12_y_7 : decode cX12_y 7 = .ok (.iconst 1, 1) := by decide +kernel
theorem dX12_y_8 : decode cX12_y 8 = .ok (.iadd, 1) := by decide +kernel
theorem dX12_y_9 : decode cX12_y 9 = .ok (.iaload, 1) := by decide +kernel
theorem dX12_y_10 : decode cX12_y 10 = .ok (.ireturn, 1) := by decide +kernel
theorem dX12_works_0 : decode cX12_works 0 = .ok (.iconst 4, 1) := by decide +kernel
theorem dX12_works_1 : decode cX12_works 1 = .ok (.iload_n 1, 1) := by decide +kernel
theorem dX12_works_2 : decode cX12_works 2 = .ok (.bipush 100, 2) := by decide +kernel
theorem dX12_works_4 : decode cX12_works 4 = .ok (.idiv, 1) := by decide +kernel
theorem dX12_works_5 : decode cX12_works 5 = .ok (.imul, 1) := by decide +kernel
theorem dX12_works_6 : decode cX12_works 6 = .ok (.istore 4, 2) := by decide +kernel
theorem dX12_works_8 : decode cX12_works 8 = .ok (.aload_n 0, 1) := by decide +kernel
theorem dX12_works_9 : decode cX12_works 9 = .ok (.iload_n 1, 1) := by decide +kernel
theorem dX12_works_10 : decode cX12_works 10 = .ok (.bipush 10, 2) := by decide +kernel
theorem dX12_works_12 : decode cX12_works 12 = .ok (.idiv, 1) := by decide +kernel
theorem dX12_works_13 : decode cX12_works 13 = .ok (.bipush 10, 2) := by decide +kernel
theorem dX12_works_15 : decode cX12_works 15 = .ok (.irem, 1) := by decide +kernel
theorem dX12_works_16 : decode cX12_works 16 = .ok (.putfield 305, 3) := by decide +kernel
theorem dX12_works_19 : decode cX12_works 19 = .ok (.aload_n 0, 1) := by decide +kernel
theorem dX12_works_20 : decode cX12_works 20 = .ok (.iload_n 1, 1) := by decide +kernel
theorem dX12_works_21 : decode cX12_works 21 = .ok (.bipush 10, 2) := by decide +kernel
theorem dX12_works_23 : decode cX12_works 23 = .ok (.irem, 1) := by decide +kernel
theorem dX12_works_24 : decode cX12_works 24 = .ok (.putfield 308, 3) := by decide +kernel
theorem dX12_works_27 : decode cX12_works 27 = .ok (.aload_n 0, 1) := by decide +kernel
theorem dX12_works_28 : decode cX12_works 28 = .ok (.iconst 1, 1) := by decide +kernel
theorem dX12_works_29 : decode cX12_works 29 = .ok (.aload_n 0, 1) := by decide +kernel
theorem dX12_works_30 : decode cX12_works 30 = .ok (.getfield 34, 3) := by decide +kernel
theorem dX12_works_33 : decode cX12_works 33 = .ok (.iconst 0, 1) := by decide +kernel
theorem dX12_works_34 : decode cX12_works 34 = .ok (.iaload, 1) := by decide +kernel
theorem dX12_works_35 : decode cX12_works 35 = .ok (.aload_n 0, 1) := by decide +kernel
theorem dX12_works_36 : decode cX12_works 36 = .ok (.getfield 40, 3) := by decide +kernel
theorem dX12_works_39 : decode cX12_works 39 = .ok (.iload 4, 2) := by decide +kernel
theorem dX12_works_41 : decode cX12_works 41 = .ok (.iaload, 1) := by decide +kernel
theorem dX12_works_42 : decode cX12_works 42 = .ok (.iadd, 1) := by decide +kernel
theorem dX12_works_43 : decode cX12_works 43 = .ok (.aload_n 0, 1) := by decide +kernel
theorem dX12_works_44 : decode cX12_works 44 = .ok (.getfield 34, 3) := by decide +kernel
theorem dX12_works_47 : decode cX12_works 47 = .ok (.iconst 1, 1) := by decide +kernel
theorem dX12_works_48 : decode cX12_works 48 = .ok (.iaload, 1) := by decide +kernel
theorem dX12_works_49 : decode cX12_works 49 = .ok (.iload_n 2, 1) := by decide +kernel
theorem dX12_works_50 : decode cX12_works 50 = .ok (.bipush 10, 2) := by decide +kernel
theorem dX12_works_52 : decode cX12_works 52 = .ok (.idiv, 1) := by decide +kernel
theorem dX12_works_53 : decode cX12_works 53 = .ok (.imul, 1) := by decide +kernel
theorem dX12_works_54 : decode cX12_works 54 = .ok (.iadd, 1) := by decide +kernel
theorem dX12_works_55 : decode cX12_works 55 = .ok (.invokestatic 311, 3) := by decide +kernel
theorem dX12_works_58 : decode cX12_works 58 = .ok (.putfield 317, 3) := by decide +kernel
theorem dX12_works_61 : decode cX12_works 61 = .ok (.aload_n 0, 1) := by decide +kernel
theorem dX12_works_62 : decode cX12_works 62 = .ok (.iconst 1, 1) := by decide +kernel
theorem dX12_works_63 : decode cX12_works 63 = .ok (.aload_n 0, 1) := by decide +kernel
theorem dX12_works_64 : decode cX12_works 64 = .ok (.getfield 34, 3) := by decide +kernel
theorem dX12_works_67 : decode cX12_works 67 = .ok (.iconst 2, 1) := by decide +kernel
theorem dX12_works_68 : decode cX12_works 68 = .ok (.iaload, 1) := by decide +kernel
theorem dX12_works_69 : decode cX12_works 69 = .ok (.aload_n 0, 1) := by decide +kernel
theorem dX12_works_70 : decode cX12_works 70 = .ok (.getfield 40, 3) := by decide +kernel
theorem dX12_works_73 : decode cX12_works 73 = .ok (.iload 4, 2) := by decide +kernel
theorem dX12_works_75 : decode cX12_works 75 = .ok (.iconst 1, 1) := by decide +kernel
theorem dX12_works_76 : decode cX12_works 76 = .ok (.iadd, 1) := by decide +kernel
theorem dX12_works_77 : decode cX12_works 77 = .ok (.iaload, 1) := by decide +kernel
theorem dX12_works_78 : decode cX12_works 78 = .ok (.iadd, 1) := by decide +kernel
theorem dX12_works_79 : decode cX12_works 79 = .ok (.aload_n 0, 1) := by decide +kernel
theorem dX12_works_80 : decode cX12_works 80 = .ok (.getfield 34, 3) := by decide +kernel
theorem dX12_works_83 : decode cX12_works 83 = .ok (.iconst 3, 1) := by decide +kernel
theorem dX12_works_84 : decode cX12_works 84 = .ok (.iaload, 1) := by decide +kernel
theorem dX12_works_85 : decode cX12_works 85 = .ok (.iload_n 2, 1) := by decide +kernel
theorem dX12_works_86 : decode cX12_works 86 = .ok (.bipush 10, 2) := by decide +kernel
theorem dX12_works_88 : decode cX12_works 88 = .ok (.irem, 1) := by decide +kernel
theorem dX12_works_89 : decode cX12_works 89 = .ok (.imul, 1) := by decide +kernel
theorem dX12_works_90 : decode cX12_works 90 = .ok (.iadd, 1) := by decide +kernel
theorem dX12_works_91 : decode cX12_works 91 = .ok (.invokestatic 311, 3) := by decide +kernel
theorem dX12_works_94 : decode cX12_works 94 = .ok (.putfield 320, 3) := by decide +kernel
theorem dX12_works_97 : decode cX12_works 97 = .ok (.iconst 1, 1) := by decide +kernel
theorem dX12_works_98 : decode cX12_works 98 = .ok (.aload_n 0, 1) := by decide +kernel
theorem dX12_works_99 : decode cX12_works 99 = .ok (.getfield 229, 3) := by decide +kernel
theorem dX12_works_102 : decode cX12_works 102 = .ok (.iconst 2, 1) := by decide +kernel
theorem dX12_works_103 : decode cX12_works 103 = .ok (.idiv, 1) := by decide +kernel
theorem dX12_works_104 : decode cX12_works 104 = .ok (.invokestatic 311, 3) := by decide +kernel
theorem dX12_works_107 : decode cX12_works 107 = .ok (.istore 5, 2) := by decide +kernel
theorem dX12_works_109 : decode cX12_works 109 = .ok (.aload_n 0, 1) := by decide +kernel
theorem dX12_works_110 : decode cX12_works 110 = .ok (.iconst 0, 1) := by decide +kernel
theorem dX12_works_111 : decode cX12_works 111 = .ok (.aload_n 0, 1) := by decide +kernel
theorem dX12_works_112 : decode cX12_works 112 = .ok (.getfield 40, 3) := by decide +kernel
theorem dX12_works_115 : decode cX12_works 115 = .ok (.iload 4, 2) := by decide +kernel
theorem dX12_works_117 : decode cX12_works 117 = .ok (.iconst 2, 1) := by decide +kernel
theorem dX12_works_118 : decode cX12_works 118 = .ok (.iadd, 1) := by decide +kernel
theorem dX12_works_119 : decode cX12_works 119 = .ok (.iaload, 1) := by decide +kernel
theorem dX12_works_120 : decode cX12_works 120 = .ok (.iload_n 3, 1) := by decide +kernel
theorem dX12_works_121 : decode cX12_works 121 = .ok (.ifCond .lt 12, 3) := by decide +kernel
theorem dX12_works_124 : decode cX12_works 124 = .ok (.iload_n 3, 1) := by decide +kernel
theorem dX12_works_125 : decode cX12_works 125 = .ok (.aload_n 0, 1) := by decide +kernel
theorem dX12_works_126 : decode cX12_works 126 = .ok (.getfield 229, 3) := by decide +kernel
theorem dX12_works_129 : decode cX12_works 129 = .ok (.idiv, 1) := by decide +kernel
theorem dX12_works_130 : decode cX12_works 130 = .ok (.goto 8, 3) := by decide +kernel
theorem dX12_works_133 : decode cX12_works 133 = .ok (.iload_n 3, 1) := by decide +kernel
theorem dX12_works_134 : decode cX12_works 134 = .ok (.ineg, 1) := by decide +kernel
theorem dX12_works_135 : decode cX12_works 135 = .ok (.iload 5, 2) := by decide +kernel
theorem dX12_works_137 : decode cX12_works 137 = .ok (.idiv, 1) := by decide +kernel
theorem dX12_works_138 : decode cX12_works 138 = .ok (.isub, 1) := by decide +kernel
theorem dX12_works_139 : decode cX12_works 139 = .ok (.invokestatic 311, 3) := by decide +kernel
theorem dX12_works_142 : decode cX12_works 142 = .ok (.putfield 323, 3) := by decide +kernel
theorem dX12_works_145 : decode cX12_works 145 = .ok (.aload_n 0, 1) := by decide +kernel
theorem dX12_works_146 : decode cX12_works 146 = .ok (.lconst 0, 1) := by decide +kernel
theorem dX12_works_147 : decode cX12_works 147 = .ok (.putfield 326, 3) := by decide +kernel
theorem dX12_works_150 : decode cX12_works 150 = .ok (.aload_n 0, 1) := by decide +kernel
theorem dX12_works_151 : decode cX12_works 151 = .ok (.lconst 0, 1) := by decide +kernel
theorem dX12_works_152 : decode cX12_works 152 = .ok (.putfield 329, 3) := by decide +kernel
theorem dX12_works_155 : decode cX12_works 155 = .ok (.aload_n 0, 1) := by decide +kernel
theorem dX12_works_156 : decode cX12_works 156 = .ok (.lconst 0, 1) := by decide +kernel
theorem dX12_works_157 : decode cX12_works 157 = .ok (.putfield 332, 3) := by decide +kernel
theorem dX12_works_160 : decode cX12_works 160 = .ok (.iconst 0, 1) := by decide +kernel
theorem dX12_works_161 : decode cX12_works 161 = .ok (.istore 6, 2) := by decide +kernel
theorem dX12_works_163 : decode cX12_works 163 = .ok (.iload 6, 2) := by decide +kernel
theorem dX12_works_165 : decode cX12_works 165 = .ok (.aload_n 0, 1) := by decide +kernel
theorem dX12_works_166 : decode cX12_works 166 = .ok (.getfield 220, 3) := by decide +kernel
theorem dX12_works_169 : decode cX12_works 169 = .ok (.if_icmp .ge 168, 3) := by decide +kernel
theorem dX12_works_172 : decode cX12_works 172 = .ok (.aload_n 0, 1) := by decide +kernel
theorem dX12_works_173 : decode cX12_works 173 = .ok (.getfield 70, 3) := by decide +kernel
theorem dX12_works_176 : decode cX12_works 176 = .ok (.iload 6, 2) := by decide +kernel
theorem dX12_works_178 : decode cX12_works 178 = .ok (.iconst 0, 1) := by decide +kernel
theorem dX12_works_179 : decode cX12_works 179 = .ok (.aload_n 0, 1) := by decide +kernel
theorem dX12_works_180 : decode cX12_works 180 = .ok (.getfield 31, 3) := by decide +kernel
theorem dX12_works_183 : decode cX12_works 183 = .ok (.iconst 3, 1) := by decide +kernel
theorem dX12_works_184 : decode cX12_works 184 = .ok (.iload 6, 2) := by decide +kernel
theorem dX12_works_186 : decode cX12_works 186 = .ok (.imul, 1) := by decide +kernel
theorem dX12_works_187 : decode cX12_works 187 = .ok (.iconst 2, 1) := by decide +kernel
theorem dX12_works_188 : decode cX12_works 188 = .ok (.iadd, 1) := by decide +kernel
theorem dX12_works_189 : decode cX12_works 189 = .ok (.iaload, 1) := by decide +kernel
theorem dX12_works_190 : decode cX12_works 190 = .ok (.aload_n 0, 1) := by decide +kernel
theorem dX12_works_191 : decode cX12_works 191 = .ok (.getfield 317, 3) := by decide +kernel
theorem dX12_works_194 : decode cX12_works 194 = .ok (.aload_n 0, 1) := by decide +kernel
theorem dX12_works_195 : decode cX12_works 195 = .ok (.iload 6, 2) := by decide +kernel
theorem dX12_works_197 : decode cX12_works 197 = .ok (.invokevirtual 335, 3) := by decide +kernel
theorem dX12_works_200 : decode cX12_works 200 = .ok (.aload_n 0, 1) := by decide +kernel
theorem dX12_works_201 : decode cX12_works 201 = .ok (.aload_n 0, 1) := by decide +kernel
theorem dX12_works_202 : decode cX12_works 202 = .ok (.getfield 305, 3) := by decide +kernel
theorem dX12_works_205 : decode cX12_works 205 = .ok (.invokevirtual 335, 3) := by decide +kernel
theorem dX12_works_208 : decode cX12_works 208 = .ok (.isub, 1) := by decide +kernel
theorem dX12_works_209 : decode cX12_works 209 = .ok (.invokestatic 338, 3) := by decide +kernel
theorem dX12_works_212 : decode cX12_works 212 = .ok (.isub, 1) := by decide +kernel
theorem dX12_works_213 : decode cX12_works 213 = .ok (.aload_n 0, 1) := by decide +kernel
theorem dX12_works_214 : decode cX12_works 214 = .ok (.iload 6, 2) := by decide +kernel
theorem dX12_works_216 : decode cX12_works 216 = .ok (.invokevirtual 341, 3) := by decide +kernel
theorem dX12_works_219 : decode cX12_works 219 = .ok (.aload_n 0, 1) := by decide +kernel
theorem dX12_works_220 : decode cX12_works 220 = .ok (.aload_n 0, 1) := by decide +kernel
theorem dX12_works_221 : decode cX12_works 221 = .ok (.getfield 305, 3) := by decide +kernel
theorem dX12_works_224 : decode cX12_works 224 = .ok (.invokevirtual 341, 3) := by decide +kernel
theorem dX12_works_227 : decode cX12_works 227 = .ok (.isub, 1) := by decide +kernel
theorem dX12_works_228 : decode cX12_works 228 = .ok (.invokestatic 338, 3) := by decide +kernel
theorem dX12_works_231 : decode cX12_works 231 = .ok (.isub, 1) := by decide +kernel
theorem dX12_works_232 : decode cX12_works 232 = .ok (.imul, 1) := by decide +kernel
theorem dX12_works_233 : decode cX12_works 233 = .ok (.invokestatic 311, 3) := by decide +kernel
theorem dX12_works_236 : decode cX12_works 236 = .ok (.iastore, 1) := by decide +kernel
theorem dX12_works_237 : decode cX12_works 237 = .ok (.aload_n 0, 1) := by decide +kernel
theorem dX12_works_238 : decode cX12_works 238 = .ok (.getfield 73, 3) := by decide +kernel
theorem dX12_works_241 : decode cX12_works 241 = .ok (.iload 6, 2) := by decide +kernel
theorem dX12_works_243 : decode cX12_works 243 = .ok (.iconst 0, 1) := by decide +kernel
theorem dX12_works_244 : decode cX12_works 244 = .ok (.aload_n 0, 1) := by decide +kernel
theorem dX12_works_245 : decode cX12_works 245 = .ok (.getfield 320, 3) := by decide +kernel
theorem dX12_works_248 : decode cX12_works 248 = .ok (.aload_n 0, 1) := by decide +kernel
theorem dX12_works_249 : decode cX12_works 249 = .ok (.iload 6, 2) := by decide +kernel
theorem dX12_works_251 : decode cX12_works 251 = .ok (.invokevirtual 335, 3) := by decide +kernel
theorem dX12_works_254 : decode cX12_works 254 = .ok (.aload_n 0, 1) := by decide +kernel
theorem dX12_works_255 : decode cX12_works 255 = .ok (.aload_n 0, 1) := by decide +kernel
theorem dX12_works_256 : decode cX12_works 256 = .ok (.getfield 308, 3) := by decide +kernel
theorem dX12_works_259 : decode cX12_works 259 = .ok (.invokevirtual 335, 3) := by decide +kernel
theorem dX12_works_262 : decode cX12_works 262 = .ok (.isub, 1) := by decide +kernel
theorem dX12_works_263 : decode cX12_works 263 = .ok (.invokestatic 338, 3) := by decide +kernel
theorem dX12_works_266 : decode cX12_works 266 = .ok (.isub, 1) := by decide +kernel
theorem dX12_works_267 : decode cX12_works 267 = .ok (.invokestatic 311, 3) := by decide +kernel
theorem dX12_works_270 : decode cX12_works 270 = .ok (.iastore, 1) := by decide +kernel
theorem dX12_works_271 : decode cX12_works 271 = .ok (.aload_n 0, 1) := by decide +kernel
theorem dX12_works_272 : decode cX12_works 272 = .ok (.dup, 1) := by decide +kernel
theorem dX12_works_273 : decode cX12_works 273 = .ok (.getfield 326, 3) := by decide +kernel
theorem dX12_works_276 : decode cX12_works 276 = .ok (.aload_n 0, 1) := by decide +kernel
theorem dX12_works_277 : decode cX12_works 277 = .ok (.getfield 70, 3) := by decide +kernel
theorem dX12_works_280 : decode cX12_works 280 = .ok (.iload 6, 2) := by decide +kernel
theorem dX12_works_282 : decode cX12_works 282 = .ok (.iaload, 1) := by decide +kernel
theorem dX12_works_283 : decode cX12_works 283 = .ok (.i2l, 1) := by decide +kernel
theorem dX12_works_284 : decode cX12_works 284 = .ok (.ladd, 1) := by decide +kernel
theorem dX12_works_285 : decode cX12_works 285 = .ok (.putfield 326, 3) := by decide +kernel
theorem dX12_works_288 : decode cX12_works 288 = .ok (.aload_n 0, 1) := by decide +kernel
theorem dX12_works_289 : decode cX12_works 289 = .ok (.dup, 1) := by decide +kernel
theorem dX12_works_290 : decode cX12_works 290 = .ok (.getfield 329, 3) := by decide +kernel
theorem dX12_works_293 : decode cX12_works 293 = .ok (.aload_n 0, 1) := by decide +kernel
theorem dX12_works_294 : decode cX12_works 294 = .ok (.getfield 73, 3) := by decide +kernel
theorem dX12_works_297 : decode cX12_works 297 = .ok (.iload 6, 2) := by decide +kernel
theorem dX12_works_299 : decode cX12_works 299 = .ok (.iaload, 1) := by decide +kernel
theorem dX12_works_300 : decode cX12_works 300 = .ok (.i2l, 1) := by decide +kernel
theorem dX12_works_301 : decode cX12_works 301 = .ok (.ladd, 1) := by decide +kernel
theorem dX12_works_302 : decode cX12_works 302 = .ok (.putfield 329, 3) := by decide +kernel
theorem dX12_works_305 : decode cX12_works 305 = .ok (.aload_n 0, 1) := by decide +kernel
theorem dX12_works_306 : decode cX12_works 306 = .ok (.dup, 1) := by decide +kernel
theorem dX12_works_307 : decode cX12_works 307 = .ok (.getfield 332, 3) := by decide +kernel
theorem dX12_works_310 : decode cX12_works 310 = .ok (.aload_n 0, 1) := by decide +kernel
theorem dX12_works_311 : decode cX12_works 311 = .ok (.getfield 70, 3) := by decide +kernel
theorem dX12_works_314 : decode cX12_works 314 = .ok (.iload 6, 2) := by decide +kernel
theorem dX12_works_316 : decode cX12_works 316 = .ok (.iaload, 1) := by decide +kernel
theorem dX12_works_317 : decode cX12_works 317 = .ok (.i2l, 1) := by decide +kernel
theorem dX12_works_318 : decode cX12_works 318 = .ok (.aload_n 0, 1) := by decide +kernel
theorem dX12_works_319 : decode cX12_works 319 = .ok (.getfield 73, 3) := by decide +kernel
theorem dX12_works_322 : decode cX12_works 322 = .ok (.iload 6, 2) := by decide +kernel
theorem dX12_works_324 : decode cX12_works 324 = .ok (.iaload, 1) := by decide +kernel
theorem dX12_works_325 : decode cX12_works 325 = .ok (.i2l, 1) := by decide +kernel
theorem dX12_works_326 : decode cX12_works 326 = .ok (.lmul, 1) := by decide +kernel
theorem dX12_works_327 : decode cX12_works 327 = .ok (.ladd, 1) := by decide +kernel
theorem dX12_works_328 : decode cX12_works 328 = .ok (.putfield 332, 3) := by decide +kernel
theorem dX12_works_331 : decode cX12_works 331 = .ok (.iinc 6 1, 3) := by decide +kernel
theorem dX12_works_334 : decode cX12_works 334 = .ok (.goto (-171), 3) := by decide +kernel
theorem dX12_works_337 : decode cX12_works 337 = .ok (.return_, 1) := by decide +kernel
theorem dX12_takesVoice_0 : decode cX12_takesVoice 0 = .ok (.iconst 0, 1) := by decide +kernel
theorem dX12_takesVoice_1 : decode cX12_takesVoice 1 = .ok (.istore_n 1, 1) := by decide +kernel
theorem dX12_takesVoice_2 : decode cX12_takesVoice 2 = .ok (.iload_n 1, 1) := by decide +kernel
theorem dX12_takesVoice_3 : decode cX12_takesVoice 3 = .ok (.aload_n 0, 1) := by decide +kernel
theorem dX12_takesVoice_4 : decode cX12_takesVoice 4 = .ok (.getfield 220, 3) := by decide +kernel
theorem dX12_takesVoice_7 : decode cX12_takesVoice 7 = .ok (.if_icmp .ge 22, 3) := by decide +kernel
theorem dX12_takesVoice_10 : decode cX12_takesVoice 10 = .ok (.aload_n 0, 1) := by decide +kernel
theorem dX12_takesVoice_11 : decode cX12_takesVoice 11 = .ok (.getfield 76, 3) := by decide +kernel
theorem dX12_takesVoice_14 : decode cX12_takesVoice 14 = .ok (.iload_n 1, 1) := by decide +kernel
theorem dX12_takesVoice_15 : decode cX12_takesVoice 15 = .ok (.aload_n 0, 1) := by decide +kernel
theorem dX12_takesVoice_16 : decode cX12_takesVoice 16 = .ok (.getfield 70, 3) := by decide +kernel
theorem dX12_takesVoice_19 : decode cX12_takesVoice 19 = .ok (.iload_n 1, 1) := by decide +kernel
theorem dX12_takesVoice_20 : decode cX12_takesVoice 20 = .ok (.iaload, 1) := by decide +kernel
theorem dX12_takesVoice_21 : decode cX12_takesVoice 21 = .ok (.i2l, 1) := by decide +kernel
theorem dX12_takesVoice_22 : decode cX12_takesVoice 22 = .ok (.lastore, 1) := by decide +kernel
theorem dX12_takesVoice_23 : decode cX12_takesVoice 23 = .ok (.iinc 1 1, 3) := by decide +kernel
theorem dX12_takesVoice_26 : decode cX12_takesVoice 26 = .ok (.goto (-24), 3) := by decide +kernel
theorem dX12_takesVoice_29 : decode cX12_takesVoice 29 = .ok (.return_, 1) := by decide +kernel
theorem dX12_takesFace_0 : decode cX12_takesFace 0 = .ok (.iconst 0, 1) := by decide +kernel
theorem dX12_takesFace_1 : decode cX12_takesFace 1 = .ok (.istore_n 1, 1) := by decide +kernel
theorem dX12_takesFace_2 : decode cX12_takesFace 2 = .ok (.iload_n 1, 1) := by decide +kernel
theorem dX12_takesFace_3 : decode cX12_takesFace 3 = .ok (.aload_n 0, 1) := by decide +kernel
theorem dX12_takesFace_4 : decode cX12_takesFace 4 = .ok (.getfield 220, 3) := by decide +kernel
theorem dX12_takesFace_7 : decode cX12_takesFace 7 = .ok (.if_icmp .ge 34, 3) := by decide +kernel
theorem dX12_takesFace_10 : decode cX12_takesFace 10 = .ok (.aload_n 0, 1) := by decide +kernel
theorem dX12_takesFace_11 : decode cX12_takesFace 11 = .ok (.getfield 76, 3) := by decide +kernel
theorem dX12_takesFace_14 : decode cX12_takesFace 14 = .ok (.iload_n 1, 1) := by decide +kernel
theorem dX12_takesFace_15 : decode cX12_takesFace 15 = .ok (.aload_n 0, 1) := by decide +kernel
theorem dX12_takesFace_16 : decode cX12_takesFace 16 = .ok (.getfield 31, 3) := by decide +kernel
theorem dX12_takesFace_19 : decode cX12_takesFace 19 = .ok (.iconst 3, 1) := by decide +kernel
theorem dX12_takesFace_20 : decode cX12_takesFace 20 = .ok (.iload_n 1, 1) := by decide +kernel
theorem dX12_takesFace_21 : decode cX12_takesFace 21 = .ok (.imul, 1) := by decide +kernel
theorem dX12_takesFace_22 : decode cX12_takesFace 22 = .ok (.iconst 2, 1) := by decide +kernel
theorem dX12_takesFace_23 : decode cX12_takesFace 23 = .ok (.iadd, 1) := by decide +kernel
theorem dX12_takesFace_24 : decode cX12_takesFace 24 = .ok (.iaload, 1) := by decide +kernel
theorem dX12_takesFace_25 : decode cX12_takesFace 25 = .ok (.i2l, 1) := by decide +kernel
theorem dX12_takesFace_26 : decode cX12_takesFace 26 = .ok (.aload_n 0, 1) := by decide +kernel
theorem dX12_takesFace_27 : decode cX12_takesFace 27 = .ok (.getfield 73, 3) := by decide +kernel
theorem dX12_takesFace_30 : decode cX12_takesFace 30 = .ok (.iload_n 1, 1) := by decide +kernel
theorem dX12_takesFace_31 : decode cX12_takesFace 31 = .ok (.iaload, 1) := by decide +kernel
theorem dX12_takesFace_32 : decode cX12_takesFace 32 = .ok (.i2l, 1) := by decide +kernel
theorem dX12_takesFace_33 : decode cX12_takesFace 33 = .ok (.lmul, 1) := by decide +kernel
theorem dX12_takesFace_34 : decode cX12_takesFace 34 = .ok (.lastore, 1) := by decide +kernel
theorem dX12_takesFace_35 : decode cX12_takesFace 35 = .ok (.iinc 1 1, 3) := by decide +kernel
theorem dX12_takesFace_38 : decode cX12_takesFace 38 = .ok (.goto (-36), 3) := by decide +kernel
theorem dX12_takesFace_41 : decode cX12_takesFace 41 = .ok (.return_, 1) := by decide +kernel
theorem dX12_takesOdds_0 : decode cX12_takesOdds 0 = .ok (.lconst 0, 1) := by decide +kernel
theorem dX12_takesOdds_1 : decode cX12_takesOdds 1 = .ok (.lstore_n 1, 1) := by decide +kernel
theorem dX12_takesOdds_2 : decode cX12_takesOdds 2 = .ok (.iconst 0, 1) := by decide +kernel
theorem dX12_takesOdds_3 : decode cX12_takesOdds 3 = .ok (.istore_n 3, 1) := by decide +kernel
theorem dX12_takesOdds_4 : decode cX12_takesOdds 4 = .ok (.iload_n 3, 1) := by decide +kernel
theorem dX12_takesOdds_5 : decode cX12_takesOdds 5 = .ok (.aload_n 0, 1) := by decide +kernel
theorem dX12_takesOdds_6 : decode cX12_takesOdds 6 = .ok (.getfield 220, 3) := by decide +kernel
theorem dX12_takesOdds_9 : decode cX12_takesOdds 9 = .ok (.if_icmp .ge 73, 3) := by decide +kernel
theorem dX12_takesOdds_12 : decode cX12_takesOdds 12 = .ok (.aload_n 0, 1) := by decide +kernel
theorem dX12_takesOdds_13 : decode cX12_takesOdds 13 = .ok (.getfield 76, 3) := by decide +kernel
theorem dX12_takesOdds_16 : decode cX12_takesOdds 16 = .ok (.iload_n 3, 1) := by decide +kernel
theorem dX12_takesOdds_17 : decode cX12_takesOdds 17 = .ok (.aload_n 0, 1) := by decide +kernel
theorem dX12_takesOdds_18 : decode cX12_takesOdds 18 = .ok (.getfield 323, 3) := by decide +kernel
theorem dX12_takesOdds_21 : decode cX12_takesOdds 21 = .ok (.i2l, 1) := by decide +kernel
theorem dX12_takesOdds_22 : decode cX12_takesOdds 22 = .ok (.aload_n 0, 1) := by decide +kernel
theorem dX12_takesOdds_23 : decode cX12_takesOdds 23 = .ok (.getfield 220, 3) := by decide +kernel
theorem dX12_takesOdds_26 : decode cX12_takesOdds 26 = .ok (.i2l, 1) := by decide +kernel
theorem dX12_takesOdds_27 : decode cX12_takesOdds 27 = .ok (.lmul, 1) := by decide +kernel
theorem dX12_takesOdds_28 : decode cX12_takesOdds 28 = .ok (.aload_n 0, 1) := by decide +kernel
theorem dX12_takesOdds_29 : decode cX12_takesOdds 29 = .ok (.getfield 70, 3) := by decide +kernel
theorem dX12_takesOdds_32 : decode cX12_takesOdds 32 = .ok (.iload_n 3, 1) := by decide +kernel
theorem dX12_takesOdds_33 : decode cX12_takesOdds 33 = .ok (.iaload, 1) := by decide +kernel
theorem dX12_takesOdds_34 : decode cX12_takesOdds 34 = .ok (.i2l, 1) := by decide +kernel
theorem dX12_takesOdds_35 : decode cX12_takesOdds 35 = .ok (.lmul, 1) := by decide +kernel
theorem dX12_takesOdds_36 : decode cX12_takesOdds 36 = .ok (.aload_n 0, 1) := by decide +kernel
theorem dX12_takesOdds_37 : decode cX12_takesOdds 37 = .ok (.getfield 73, 3) := by decide +kernel
theorem dX12_takesOdds_40 : decode cX12_takesOdds 40 = .ok (.iload_n 3, 1) := by decide +kernel
theorem dX12_takesOdds_41 : decode cX12_takesOdds 41 = .ok (.iaload, 1) := by decide +kernel
theorem dX12_takesOdds_42 : decode cX12_takesOdds 42 = .ok (.i2l, 1) := by decide +kernel
theorem dX12_takesOdds_43 : decode cX12_takesOdds 43 = .ok (.lmul, 1) := by decide +kernel
theorem dX12_takesOdds_44 : decode cX12_takesOdds 44 = .ok (.bipush 16, 2) := by decide +kernel
theorem dX12_takesOdds_46 : decode cX12_takesOdds 46 = .ok (.aload_n 0, 1) := by decide +kernel
theorem dX12_takesOdds_47 : decode cX12_takesOdds 47 = .ok (.getfield 323, 3) := by decide +kernel
theorem dX12_takesOdds_50 : decode cX12_takesOdds 50 = .ok (.isub, 1) := by decide +kernel
theorem dX12_takesOdds_51 : decode cX12_takesOdds 51 = .ok (.i2l, 1) := by decide +kernel
theorem dX12_takesOdds_52 : decode cX12_takesOdds 52 = .ok (.aload_n 0, 1) := by decide +kernel
theorem dX12_takesOdds_53 : decode cX12_takesOdds 53 = .ok (.getfield 329, 3) := by decide +kernel
theorem dX12_takesOdds_56 : decode cX12_takesOdds 56 = .ok (.lmul, 1) := by decide +kernel
theorem dX12_takesOdds_57 : decode cX12_takesOdds 57 = .ok (.aload_n 0, 1) := by decide +kernel
theorem dX12_takesOdds_58 : decode cX12_takesOdds 58 = .ok (.getfield 70, 3) := by decide +kernel
theorem dX12_takesOdds_61 : decode cX12_takesOdds 61 = .ok (.iload_n 3, 1) := by decide +kernel
theorem dX12_takesOdds_62 : decode cX12_takesOdds 62 = .ok (.iaload, 1) := by decide +kernel
theorem dX12_takesOdds_63 : decode cX12_takesOdds 63 = .ok (.i2l, 1) := by decide +kernel
theorem dX12_takesOdds_64 : decode cX12_takesOdds 64 = .ok (.lmul, 1) := by decide +kernel
theorem dX12_takesOdds_65 : decode cX12_takesOdds 65 = .ok (.ladd, 1) := by decide +kernel
theorem dX12_takesOdds_66 : decode cX12_takesOdds 66 = .ok (.lastore, 1) := by decide +kernel
theorem dX12_takesOdds_67 : decode cX12_takesOdds 67 = .ok (.lload_n 1, 1) := by decide +kernel
theorem dX12_takesOdds_68 : decode cX12_takesOdds 68 = .ok (.aload_n 0, 1) := by decide +kernel
theorem dX12_takesOdds_69 : decode cX12_takesOdds 69 = .ok (.getfield 76, 3) := by decide +kernel
theorem dX12_takesOdds_72 : decode cX12_takesOdds 72 = .ok (.iload_n 3, 1) := by decide +kernel
theorem dX12_takesOdds_73 : decode cX12_takesOdds 73 = .ok (.laload, 1) := by decide +kernel
theorem dX12_takesOdds_74 : decode cX12_takesOdds 74 = .ok (.ladd, 1) := by decide +kernel
theorem dX12_takesOdds_75 : decode cX12_takesOdds 75 = .ok (.lstore_n 1, 1) := by decide +kernel
theorem dX12_takesOdds_76 : decode cX12_takesOdds 76 = .ok (.iinc 3 1, 3) := by decide +kernel
theorem dX12_takesOdds_79 : decode cX12_takesOdds 79 = .ok (.goto (-75), 3) := by decide +kernel
theorem dX12_takesOdds_82 : decode cX12_takesOdds 82 = .ok (.lload_n 1, 1) := by decide +kernel
theorem dX12_takesOdds_83 : decode cX12_takesOdds 83 = .ok (.lconst 0, 1) := by decide +kernel
theorem dX12_takesOdds_84 : decode cX12_takesOdds 84 = .ok (.lcmp, 1) := by decide +kernel
theorem dX12_takesOdds_85 : decode cX12_takesOdds 85 = .ok (.ifCond .ne 7, 3) := by decide +kernel
theorem dX12_takesOdds_88 : decode cX12_takesOdds 88 = .ok (.aload_n 0, 1) := by decide +kernel
theorem dX12_takesOdds_89 : decode cX12_takesOdds 89 = .ok (.invokevirtual 344, 3) := by decide +kernel
theorem dX12_takesOdds_92 : decode cX12_takesOdds 92 = .ok (.return_, 1) := by decide +kernel
theorem dX12_takesSurer_0 : decode cX12_takesSurer 0 = .ok (.lconst 0, 1) := by decide +kernel
theorem dX12_takesSurer_1 : decode cX12_takesSurer 1 = .ok (.lstore_n 1, 1) := by decide +kernel
theorem dX12_takesSurer_2 : decode cX12_takesSurer 2 = .ok (.lconst 0, 1) := by decide +kernel
theorem dX12_takesSurer_3 : decode cX12_takesSurer 3 = .ok (.lstore_n 3, 1) := by decide +kernel
theorem dX12_takesSurer_4 : decode cX12_takesSurer 4 = .ok (.lconst 0, 1) := by decide +kernel
theorem dX12_takesSurer_5 : decode cX12_takesSurer 5 = .ok (.lstore 5, 2) := by decide +kernel
theorem dX12_takesSurer_7 : decode cX12_takesSurer 7 = .ok (.aload_n 0, 1) := by decide +kernel
theorem dX12_takesSurer_8 : decode cX12_takesSurer 8 = .ok (.invokevirtual 347, 3) := by decide +kernel
theorem dX12_takesSurer_11 : decode cX12_takesSurer 11 = .ok (.iconst 0, 1) := by decide +kernel
theorem dX12_takesSurer_12 : decode cX12_takesSurer 12 = .ok (.istore 7, 2) := by decide +kernel
theorem dX12_takesSurer_14 : decode cX12_takesSurer 14 = .ok (.iload 7, 2) := by decide +kernel
theorem dX12_takesSurer_16 : decode cX12_takesSurer 16 = .ok (.aload_n 0, 1) := by decide +kernel
theorem dX12_takesSurer_17 : decode cX12_takesSurer 17 = .ok (.getfield 220, 3) := by decide +kernel
theorem dX12_takesSurer_20 : decode cX12_takesSurer 20 = .ok (.if_icmp .ge 46, 3) := by decide +kernel
theorem dX12_takesSurer_23 : decode cX12_takesSurer 23 = .ok (.lload_n 1, 1) := by decide +kernel
theorem dX12_takesSurer_24 : decode cX12_takesSurer 24 = .ok (.aload_n 0, 1) := by decide +kernel
theorem dX12_takesSurer_25 : decode cX12_takesSurer 25 = .ok (.getfield 76, 3) := by decide +kernel
theorem dX12_takesSurer_28 : decode cX12_takesSurer 28 = .ok (.iload 7, 2) := by decide +kernel
theorem dX12_takesSurer_30 : decode cX12_takesSurer 30 = .ok (.laload, 1) := by decide +kernel
theorem dX12_takesSurer_31 : decode cX12_takesSurer 31 = .ok (.invokestatic 350, 3) := by decide +kernel
theorem dX12_takesSurer_34 : decode cX12_takesSurer 34 = .ok (.lstore_n 1, 1) := by decide +kernel
theorem dX12_takesSurer_35 : decode cX12_takesSurer 35 = .ok (.lload_n 3, 1) := by decide +kernel
theorem dX12_takesSurer_36 : decode cX12_takesSurer 36 = .ok (.aload_n 0, 1) := by decide +kernel
theorem dX12_takesSurer_37 : decode cX12_takesSurer 37 = .ok (.getfield 76, 3) := by decide +kernel
theorem dX12_takesSurer_40 : decode cX12_takesSurer 40 = .ok (.iload 7, 2) := by decide +kernel
theorem dX12_takesSurer_42 : decode cX12_takesSurer 42 = .ok (.laload, 1) := by decide +kernel
theorem dX12_takesSurer_43 : decode cX12_takesSurer 43 = .ok (.ladd, 1) := by decide +kernel
theorem dX12_takesSurer_44 : decode cX12_takesSurer 44 = .ok (.lstore_n 3, 1) := by decide +kernel
theorem dX12_takesSurer_45 : decode cX12_takesSurer 45 = .ok (.lload 5, 2) := by decide +kernel
theorem dX12_takesSurer_47 : decode cX12_takesSurer 47 = .ok (.aload_n 0, 1) := by decide +kernel
theorem dX12_takesSurer_48 : decode cX12_takesSurer 48 = .ok (.getfield 70, 3) := by decide +kernel
theorem dX12_takesSurer_51 : decode cX12_takesSurer 51 = .ok (.iload 7, 2) := by decide +kernel
theorem dX12_takesSurer_53 : decode cX12_takesSurer 53 = .ok (.iaload, 1) := by decide +kernel
theorem dX12_takesSurer_54 : decode cX12_takesSurer 54 = .ok (.i2l, 1) := by decide +kernel
theorem dX12_takesSurer_55 : decode cX12_takesSurer 55 = .ok (.invokestatic 350, 3) := by decide +kernel
theorem dX12_takesSurer_58 : decode cX12_takesSurer 58 = .ok (.lstore 5, 2) := by decide +kernel
theorem dX12_takesSurer_60 : decode cX12_takesSurer 60 = .ok (.iinc 7 1, 3) := by decide +kernel
theorem dX12_takesSurer_63 : decode cX12_takesSurer 63 = .ok (.goto (-49), 3) := by decide +kernel
theorem dX12_takesSurer_66 : decode cX12_takesSurer 66 = .ok (.lload_n 1, 1) := by decide +kernel
theorem dX12_takesSurer_67 : decode cX12_takesSurer 67 = .ok (.aload_n 0, 1) := by decide +kernel
theorem dX12_takesSurer_68 : decode cX12_takesSurer 68 = .ok (.getfield 326, 3) := by decide +kernel
theorem dX12_takesSurer_71 : decode cX12_takesSurer 71 = .ok (.lmul, 1) := by decide +kernel
theorem dX12_takesSurer_72 : decode cX12_takesSurer 72 = .ok (.lload 5, 2) := by decide +kernel
theorem dX12_takesSurer_74 : decode cX12_takesSurer 74 = .ok (.lload_n 3, 1) := by decide +kernel
theorem dX12_takesSurer_75 : decode cX12_takesSurer 75 = .ok (.lmul, 1) := by decide +kernel
theorem dX12_takesSurer_76 : decode cX12_takesSurer 76 = .ok (.lcmp, 1) := by decide +kernel
theorem dX12_takesSurer_77 : decode cX12_takesSurer 77 = .ok (.ifCond .gt 7, 3) := by decide +kernel
theorem dX12_takesSurer_80 : decode cX12_takesSurer 80 = .ok (.aload_n 0, 1) := by decide +kernel
theorem dX12_takesSurer_81 : decode cX12_takesSurer 81 = .ok (.invokevirtual 344, 3) := by decide +kernel
theorem dX12_takesSurer_84 : decode cX12_takesSurer 84 = .ok (.return_, 1) := by decide +kernel
theorem dX12_takesBetween_0 : decode cX12_takesBetween 0 = .ok (.aload_n 0, 1) := by decide +kernel
theorem dX12_takesBetween_1 : decode cX12_takesBetween 1 = .ok (.aload_n 0, 1) := by decide +kernel
theorem dX12_takesBetween_2 : decode cX12_takesBetween 2 = .ok (.getfield 305, 3) := by decide +kernel
theorem dX12_takesBetween_5 : decode cX12_takesBetween 5 = .ok (.invokevirtual 335, 3) := by decide +kernel
theorem dX12_takesBetween_8 : decode cX12_takesBetween 8 = .ok (.aload_n 0, 1) := by decide +kernel
theorem dX12_takesBetween_9 : decode cX12_takesBetween 9 = .ok (.getfield 320, 3) := by decide +kernel
theorem dX12_takesBetween_12 : decode cX12_takesBetween 12 = .ok (.imul, 1) := by decide +kernel
theorem dX12_takesBetween_13 : decode cX12_takesBetween 13 = .ok (.aload_n 0, 1) := by decide +kernel
theorem dX12_takesBetween_14 : decode cX12_takesBetween 14 = .ok (.aload_n 0, 1) := by decide +kernel
theorem dX12_takesBetween_15 : decode cX12_takesBetween 15 = .ok (.getfield 308, 3) := by decide +kernel
theorem dX12_takesBetween_18 : decode cX12_takesBetween 18 = .ok (.invokevirtual 335, 3) := by decide +kernel
theorem dX12_takesBetween_21 : decode cX12_takesBetween 21 = .ok (.aload_n 0, 1) := by decide +kernel
theorem dX12_takesBetween_22 : decode cX12_takesBetween 22 = .ok (.getfield 317, 3) := by decide +kernel
theorem dX12_takesBetween_25 : decode cX12_takesBetween 25 = .ok (.imul, 1) := by decide +kernel
theorem dX12_takesBetween_26 : decode cX12_takesBetween 26 = .ok (.iadd, 1) := by decide +kernel
theorem dX12_takesBetween_27 : decode cX12_takesBetween 27 = .ok (.aload_n 0, 1) := by decide +kernel
theorem dX12_takesBetween_28 : decode cX12_takesBetween 28 = .ok (.getfield 317, 3) := by decide +kernel
theorem dX12_takesBetween_31 : decode cX12_takesBetween 31 = .ok (.aload_n 0, 1) := by decide +kernel
theorem dX12_takesBetween_32 : decode cX12_takesBetween 32 = .ok (.getfield 320, 3) := by decide +kernel
theorem dX12_takesBetween_35 : decode cX12_takesBetween 35 = .ok (.iadd, 1) := by decide +kernel
theorem dX12_takesBetween_36 : decode cX12_takesBetween 36 = .ok (.idiv, 1) := by decide +kernel
theorem dX12_takesBetween_37 : decode cX12_takesBetween 37 = .ok (.istore_n 1, 1) := by decide +kernel
theorem dX12_takesBetween_38 : decode cX12_takesBetween 38 = .ok (.iconst 0, 1) := by decide +kernel
theorem dX12_takesBetween_39 : decode cX12_takesBetween 39 = .ok (.istore_n 2, 1) := by decide +kernel
theorem dX12_takesBetween_40 : decode cX12_takesBetween 40 = .ok (.sipush 1000, 3) := by decide +kernel
theorem dX12_takesBetween_43 : decode cX12_takesBetween 43 = .ok (.istore_n 3, 1) := by decide +kernel
theorem dX12_takesBetween_44 : decode cX12_takesBetween 44 = .ok (.iconst 0, 1) := by decide +kernel
theorem dX12_takesBetween_45 : decode cX12_takesBetween 45 = .ok (.istore 4, 2) := by decide +kernel
theorem dX12_takesBetween_47 : decode cX12_takesBetween 47 = .ok (.iload 4, 2) := by decide +kernel
theorem dX12_takesBetween_49 : decode cX12_takesBetween 49 = .ok (.aload_n 0, 1) := by decide +kernel
theorem dX12_takesBetween_50 : decode cX12_takesBetween 50 = .ok (.getfield 220, 3) := by decide +kernel
theorem dX12_takesBetween_53 : decode cX12_takesBetween 53 = .ok (.if_icmp .ge 56, 3) := by decide +kernel
theorem dX12_takesBetween_56 : decode cX12_takesBetween 56 = .ok (.aload_n 0, 1) := by decide +kernel
theorem dX12_takesBetween_57 : decode cX12_takesBetween 57 = .ok (.iload 4, 2) := by decide +kernel
theorem dX12_takesBetween_59 : decode cX12_takesBetween 59 = .ok (.invokevirtual 335, 3) := by decide +kernel
theorem dX12_takesBetween_62 : decode cX12_takesBetween 62 = .ok (.iload_n 1, 1) := by decide +kernel
theorem dX12_takesBetween_63 : decode cX12_takesBetween 63 = .ok (.isub, 1) := by decide +kernel
theorem dX12_takesBetween_64 : decode cX12_takesBetween 64 = .ok (.invokestatic 338, 3) := by decide +kernel
theorem dX12_takesBetween_67 : decode cX12_takesBetween 67 = .ok (.aload_n 0, 1) := by decide +kernel
theorem dX12_takesBetween_68 : decode cX12_takesBetween 68 = .ok (.iload 4, 2) := by decide +kernel
theorem dX12_takesBetween_70 : decode cX12_takesBetween 70 = .ok (.invokevirtual 341, 3) := by decide +kernel
theorem dX12_takesBetween_73 : decode cX12_takesBetween 73 = .ok (.aload_n 0, 1) := by decide +kernel
theorem dX12_takesBetween_74 : decode cX12_takesBetween 74 = .ok (.aload_n 0, 1) := by decide +kernel
theorem dX12_takesBetween_75 : decode cX12_takesBetween 75 = .ok (.getfield 305, 3) := by decide +kernel
theorem dX12_takesBetween_78 : decode cX12_takesBetween 78 = .ok (.invokevirtual 341, 3) := by decide +kernel
theorem dX12_takesBetween_81 : decode cX12_takesBetween 81 = .ok (.isub, 1) := by decide +kernel
theorem dX12_takesBetween_82 : decode cX12_takesBetween 82 = .ok (.invokestatic 338, 3) := by decide +kernel
theorem dX12_takesBetween_85 : decode cX12_takesBetween 85 = .ok (.iadd, 1) := by decide +kernel
theorem dX12_takesBetween_86 : decode cX12_takesBetween 86 = .ok (.istore 5, 2) := by decide +kernel
theorem dX12_takesBetween_88 : decode cX12_takesBetween 88 = .ok (.iload 5, 2) := by decide +kernel
theorem dX12_takesBetween_90 : decode cX12_takesBetween 90 = .ok (.iload_n 3, 1) := by decide +kernel
theorem dX12_takesBetween_91 : decode cX12_takesBetween 91 = .ok (.if_icmp .lt 6, 3) := by decide +kernel
theorem dX12_takesBetween_94 : decode cX12_takesBetween 94 = .ok (.goto 9, 3) := by decide +kernel
theorem dX12_takesBetween_97 : decode cX12_takesBetween 97 = .ok (.iload 5, 2) := by decide +kernel
theorem dX12_takesBetween_99 : decode cX12_takesBetween 99 = .ok (.istore_n 3, 1) := by decide +kernel
theorem dX12_takesBetween_100 : decode cX12_takesBetween 100 = .ok (.iload 4, 2) := by decide +kernel
theorem dX12_takesBetween_102 : decode cX12_takesBetween 102 = .ok (.istore_n 2, 1) := by decide +kernel
theorem dX12_takesBetween_103 : decode cX12_takesBetween 103 = .ok (.iinc 4 1, 3) := by decide +kernel
theorem dX12_takesBetween_106 : decode cX12_takesBetween 106 = .ok (.goto (-59), 3) := by decide +kernel
theorem dX12_takesBetween_109 : decode cX12_takesBetween 109 = .ok (.iconst 0, 1) := by decide +kernel
theorem dX12_takesBetween_110 : decode cX12_takesBetween 110 = .ok (.istore 4, 2) := by decide +kernel
theorem dX12_takesBetween_112 : decode cX12_takesBetween 112 = .ok (.iload 4, 2) := by decide +kernel
theorem dX12_takesBetween_114 : decode cX12_takesBetween 114 = .ok (.aload_n 0, 1) := by decide +kernel
theorem dX12_takesBetween_115 : decode cX12_takesBetween 115 = .ok (.getfield 220, 3) := by decide +kernel
theorem dX12_takesBetween_118 : decode cX12_takesBetween 118 = .ok (.if_icmp .ge 27, 3) := by decide +kernel
theorem dX12_takesBetween_121 : decode cX12_takesBetween 121 = .ok (.aload_n 0, 1) := by decide +kernel
theorem dX12_takesBetween_122 : decode cX12_takesBetween 122 = .ok (.getfield 76, 3) := by decide +kernel
theorem dX12_takesBetween_125 : decode cX12_takesBetween 125 = .ok (.iload 4, 2) := by decide +kernel
theorem dX12_takesBetween_127 : decode cX12_takesBetween 127 = .ok (.iload 4, 2) := by decide +kernel
theorem dX12_takesBetween_129 : decode cX12_takesBetween 129 = .ok (.iload_n 2, 1) := by decide +kernel
theorem dX12_takesBetween_130 : decode cX12_takesBetween 130 = .ok (.if_icmp .ne 7, 3) := by decide +kernel
theorem dX12_takesBetween_133 : decode cX12_takesBetween 133 = .ok (.lconst 1, 1) := by decide +kernel
theorem dX12_takesBetween_134 : decode cX12_takesBetween 134 = .ok (.goto 4, 3) := by decide +kernel
theorem dX12_takesBetween_137 : decode cX12_takesBetween 137 = .ok (.lconst 0, 1) := by decide +kernel
theorem dX12_takesBetween_138 : decode cX12_takesBetween 138 = .ok (.lastore, 1) := by decide +kernel
theorem dX12_takesBetween_139 : decode cX12_takesBetween 139 = .ok (.iinc 4 1, 3) := by decide +kernel
theorem dX12_takesBetween_142 : decode cX12_takesBetween 142 = .ok (.goto (-30), 3) := by decide +kernel
theorem dX12_takesBetween_145 : decode cX12_takesBetween 145 = .ok (.return_, 1) := by decide +kernel
theorem dX12_weighs_0 : decode cX12_weighs 0 = .ok (.iload_n 1, 1) := by decide +kernel
theorem dX12_weighs_1 : decode cX12_weighs 1 = .ok (.istore_n 2, 1) := by decide +kernel
theorem dX12_weighs_2 : decode cX12_weighs 2 = .ok (.iconst 0, 1) := by decide +kernel
theorem dX12_weighs_3 : decode cX12_weighs 3 = .ok (.istore_n 3, 1) := by decide +kernel
theorem dX12_weighs_4 : decode cX12_weighs 4 = .ok (.iload_n 3, 1) := by decide +kernel
theorem dX12_weighs_5 : decode cX12_weighs 5 = .ok (.aload_n 0, 1) := by decide +kernel
theorem dX12_weighs_6 : decode cX12_weighs 6 = .ok (.getfield 223, 3) := by decide +kernel
theorem dX12_weighs_9 : decode cX12_weighs 9 = .ok (.if_icmp .ge 96, 3) := by decide +kernel
theorem dX12_weighs_12 : decode cX12_weighs 12 = .ok (.iload_n 2, 1) := by decide +kernel
theorem dX12_weighs_13 : decode cX12_weighs 13 = .ok (.iconst 5, 1) := by decide +kernel
theorem dX12_weighs_14 : decode cX12_weighs 14 = .ok (.if_icmp .ne 91, 3) := by decide +kernel
theorem dX12_weighs_17 : decode cX12_weighs 17 = .ok (.aload_n 0, 1) := by decide +kernel
theorem dX12_weighs_18 : decode cX12_weighs 18 = .ok (.getfield 37, 3) := by decide +kernel
theorem dX12_weighs_21 : decode cX12_weighs 21 = .ok (.iconst 3, 1) := by decide +kernel
theorem dX12_weighs_22 : decode cX12_weighs 22 = .ok (.iload_n 3, 1) := by decide +kernel
theorem dX12_weighs_23 : decode cX12_weighs 23 = .ok (.imul, 1) := by decide +kernel
theorem dX12_weighs_24 : decode cX12_weighs 24 = .ok (.iaload, 1) := by decide +kernel
theorem dX12_weighs_25 : decode cX12_weighs 25 = .ok (.aload_n 0, 1) := by decide +kernel
theorem dX12_weighs_26 : decode cX12_weighs 26 = .ok (.getfield 305, 3) := by decide +kernel
theorem dX12_weighs_29 : decode cX12_weighs 29 = .ok (.if_icmp .ne 70, 3) := by decide +kernel
theorem dX12_weighs_32 : decode cX12_weighs 32 = .ok (.aload_n 0, 1) := by decide +kernel
theorem dX12_weighs_33 : decode cX12_weighs 33 = .ok (.getfield 37, 3) := by decide +kernel
theorem dX12_weighs_36 : decode cX12_weighs 36 = .ok (.iconst 3, 1) := by decide +kernel
theorem dX12_weighs_37 : decode cX12_weighs 37 = .ok (.iload_n 3, 1) := by decide +kernel
theorem dX12_weighs_38 : decode cX12_weighs 38 = .ok (.imul, 1) := by decide +kernel
theorem dX12_weighs_39 : decode cX12_weighs 39 = .ok (.iconst 1, 1) := by decide +kernel
theorem dX12_weighs_40 : decode cX12_weighs 40 = .ok (.iadd, 1) := by decide +kernel
theorem dX12_weighs_41 : decode cX12_weighs 41 = .ok (.iaload, 1) := by decide +kernel
theorem dX12_weighs_42 : decode cX12_weighs 42 = .ok (.aload_n 0, 1) := by decide +kernel
theorem dX12_weighs_43 : decode cX12_weighs 43 = .ok (.getfield 308, 3) := by decide +kernel
theorem dX12_weighs_46 : decode cX12_weighs 46 = .ok (.if_icmp .eq 6, 3) := by decide +kernel
theorem dX12_weighs_49 : decode cX12_weighs 49 = .ok (.goto 50, 3) := by decide +kernel
theorem dX12_weighs_52 : decode cX12_weighs 52 = .ok (.iconst 0, 1) := by decide +kernel
theorem dX12_weighs_53 : decode cX12_weighs 53 = .ok (.istore 4, 2) := by decide +kernel
theorem dX12_weighs_55 : decode cX12_weighs 55 = .ok (.iload 4, 2) := by decide +kernel
theorem dX12_weighs_57 : decode cX12_weighs 57 = .ok (.aload_n 0, 1) := by decide +kernel
theorem dX12_weighs_58 : decode cX12_weighs 58 = .ok (.getfield 220, 3) := by decide +kernel
theorem dX12_weighs_61 : decode cX12_weighs 61 = .ok (.if_icmp .ge 36, 3) := by decide +kernel
theorem dX12_weighs_64 : decode cX12_weighs 64 = .ok (.aload_n 0, 1) := by decide +kernel
theorem dX12_weighs_65 : decode cX12_weighs 65 = .ok (.getfield 76, 3) := by decide +kernel
theorem dX12_weighs_68 : decode cX12_weighs 68 = .ok (.iload 4, 2) := by decide +kernel
theorem dX12_weighs_70 : decode cX12_weighs 70 = .ok (.iload 4, 2) := by decide +kernel
theorem dX12_weighs_72 : decode cX12_weighs 72 = .ok (.aload_n 0, 1) := by decide +kernel
theorem dX12_weighs_73 : decode cX12_weighs 73 = .ok (.getfield 37, 3) := by decide +kernel
theorem dX12_weighs_76 : decode cX12_weighs 76 = .ok (.iconst 3, 1) := by decide +kernel
theorem dX12_weighs_77 : decode cX12_weighs 77 = .ok (.iload_n 3, 1) := by decide +kernel
theorem dX12_weighs_78 : decode cX12_weighs 78 = .ok (.imul, 1) := by decide +kernel
theorem dX12_weighs_79 : decode cX12_weighs 79 = .ok (.iconst 2, 1) := by decide +kernel
theorem dX12_weighs_80 : decode cX12_weighs 80 = .ok (.iadd, 1) := by decide +kernel
theorem dX12_weighs_81 : decode cX12_weighs 81 = .ok (.iaload, 1) := by decide +kernel
theorem dX12_weighs_82 : decode cX12_weighs 82 = .ok (.if_icmp .ne 7, 3) := by decide +kernel
theorem dX12_weighs_85 : decode cX12_weighs 85 = .ok (.lconst 1, 1) := by decide +kernel
theorem dX12_weighs_86 : decode cX12_weighs 86 = .ok (.goto 4, 3) := by decide +kernel
theorem dX12_weighs_89 : decode cX12_weighs 89 = .ok (.lconst 0, 1) := by decide +kernel
theorem dX12_weighs_90 : decode cX12_weighs 90 = .ok (.lastore, 1) := by decide +kernel
theorem dX12_weighs_91 : decode cX12_weighs 91 = .ok (.iinc 4 1, 3) := by decide +kernel
theorem dX12_weighs_94 : decode cX12_weighs 94 = .ok (.goto (-39), 3) := by decide +kernel
theorem dX12_weighs_97 : decode cX12_weighs 97 = .ok (.iconst (-1), 1) := by decide +kernel
theorem dX12_weighs_98 : decode cX12_weighs 98 = .ok (.istore_n 2, 1) := by decide +kernel
theorem dX12_weighs_99 : decode cX12_weighs 99 = .ok (.iinc 3 1, 3) := by decide +kernel
theorem dX12_weighs_102 : decode cX12_weighs 102 = .ok (.goto (-98), 3) := by decide +kernel
theorem dX12_weighs_105 : decode cX12_weighs 105 = .ok (.iload_n 2, 1) := by decide +kernel
theorem dX12_weighs_106 : decode cX12_weighs 106 = .ok (.tableswitch 130 0 6 #[42, 49, 56, 63, 116, 116, 123], 42) := by decide +kernel
theorem dX12_weighs_148 : decode cX12_weighs 148 = .ok (.aload_n 0, 1) := by decide +kernel
theorem dX12_weighs_149 : decode cX12_weighs 149 = .ok (.invokevirtual 344, 3) := by decide +kernel
theorem dX12_weighs_152 : decode cX12_weighs 152 = .ok (.goto 84, 3) := by decide +kernel
theorem dX12_weighs_155 : decode cX12_weighs 155 = .ok (.aload_n 0, 1) := by decide +kernel
theorem dX12_weighs_156 : decode cX12_weighs 156 = .ok (.invokevirtual 347, 3) := by decide +kernel
theorem dX12_weighs_159 : decode cX12_weighs 159 = .ok (.goto 77, 3) := by decide +kernel
theorem dX12_weighs_162 : decode cX12_weighs 162 = .ok (.aload_n 0, 1) := by decide +kernel
theorem dX12_weighs_163 : decode cX12_weighs 163 = .ok (.invokevirtual 353, 3) := by decide +kernel
theorem dX12_weighs_166 : decode cX12_weighs 166 = .ok (.goto 70, 3) := by decide +kernel
theorem dX12_weighs_169 : decode cX12_weighs 169 = .ok (.iconst 0, 1) := by decide +kernel
theorem dX12_weighs_170 : decode cX12_weighs 170 = .ok (.istore_n 3, 1) := by decide +kernel
theorem dX12_weighs_171 : decode cX12_weighs 171 = .ok (.iload_n 3, 1) := by decide +kernel
theorem dX12_weighs_172 : decode cX12_weighs 172 = .ok (.aload_n 0, 1) := by decide +kernel
theorem dX12_weighs_173 : decode cX12_weighs 173 = .ok (.getfield 220, 3) := by decide +kernel
theorem dX12_weighs_176 : decode cX12_weighs 176 = .ok (.if_icmp .ge 30, 3) := by decide +kernel
theorem dX12_weighs_179 : decode cX12_weighs 179 = .ok (.aload_n 0, 1) := by decide +kernel
theorem dX12_weighs_180 : decode cX12_weighs 180 = .ok (.getfield 76, 3) := by decide +kernel
theorem dX12_weighs_183 : decode cX12_weighs 183 = .ok (.iload_n 3, 1) := by decide +kernel
theorem dX12_weighs_184 : decode cX12_weighs 184 = .ok (.aload_n 0, 1) := by decide +kernel
theorem dX12_weighs_185 : decode cX12_weighs 185 = .ok (.getfield 70, 3) := by decide +kernel
theorem dX12_weighs_188 : decode cX12_weighs 188 = .ok (.iload_n 3, 1) := by decide +kernel
theorem dX12_weighs_189 : decode cX12_weighs 189 = .ok (.iaload, 1) := by decide +kernel
theorem dX12_weighs_190 : decode cX12_weighs 190 = .ok (.i2l, 1) := by decide +kernel
theorem dX12_weighs_191 : decode cX12_weighs 191 = .ok (.aload_n 0, 1) := by decide +kernel
theorem dX12_weighs_192 : decode cX12_weighs 192 = .ok (.getfield 73, 3) := by decide +kernel
theorem dX12_weighs_195 : decode cX12_weighs 195 = .ok (.iload_n 3, 1) := by decide +kernel
theorem dX12_weighs_196 : decode cX12_weighs 196 = .ok (.iaload, 1) := by decide +kernel
theorem dX12_weighs_197 : decode cX12_weighs 197 = .ok (.i2l, 1) := by decide +kernel
theorem dX12_weighs_198 : decode cX12_weighs 198 = .ok (.lmul, 1) := by decide +kernel
theorem dX12_weighs_199 : decode cX12_weighs 199 = .ok (.lastore, 1) := by decide +kernel
theorem dX12_weighs_200 : decode cX12_weighs 200 = .ok (.iinc 3 1, 3) := by decide +kernel
theorem dX12_weighs_203 : decode cX12_weighs 203 = .ok (.goto (-32), 3) := by decide +kernel
theorem dX12_weighs_206 : decode cX12_weighs 206 = .ok (.aload_n 0, 1) := by decide +kernel
theorem dX12_weighs_207 : decode cX12_weighs 207 = .ok (.getfield 332, 3) := by decide +kernel
theorem dX12_weighs_210 : decode cX12_weighs 210 = .ok (.lconst 0, 1) := by decide +kernel
theorem dX12_weighs_211 : decode cX12_weighs 211 = .ok (.lcmp, 1) := by decide +kernel
theorem dX12_weighs_212 : decode cX12_weighs 212 = .ok (.ifCond .ne 24, 3) := by decide +kernel
theorem dX12_weighs_215 : decode cX12_weighs 215 = .ok (.aload_n 0, 1) := by decide +kernel
theorem dX12_weighs_216 : decode cX12_weighs 216 = .ok (.invokevirtual 344, 3) := by decide +kernel
theorem dX12_weighs_219 : decode cX12_weighs 219 = .ok (.goto 17, 3) := by decide +kernel
theorem dX12_weighs_222 : decode cX12_weighs 222 = .ok (.aload_n 0, 1) := by decide +kernel
theorem dX12_weighs_223 : decode cX12_weighs 223 = .ok (.invokevirtual 356, 3) := by decide +kernel
theorem dX12_weighs_226 : decode cX12_weighs 226 = .ok (.goto 10, 3) := by decide +kernel
theorem dX12_weighs_229 : decode cX12_weighs 229 = .ok (.aload_n 0, 1) := by decide +kernel
theorem dX12_weighs_230 : decode cX12_weighs 230 = .ok (.invokevirtual 359, 3) := by decide +kernel
theorem dX12_weighs_233 : decode cX12_weighs 233 = .ok (.goto 3, 3) := by decide +kernel
theorem dX12_weighs_236 : decode cX12_weighs 236 = .ok (.aload_n 0, 1) := by decide +kernel
theorem dX12_weighs_237 : decode cX12_weighs 237 = .ok (.lconst 0, 1) := by decide +kernel
theorem dX12_weighs_238 : decode cX12_weighs 238 = .ok (.putfield 362, 3) := by decide +kernel
theorem dX12_weighs_241 : decode cX12_weighs 241 = .ok (.iconst 0, 1) := by decide +kernel
theorem dX12_weighs_242 : decode cX12_weighs 242 = .ok (.istore_n 3, 1) := by decide +kernel
theorem dX12_weighs_243 : decode cX12_weighs 243 = .ok (.iload_n 3, 1) := by decide +kernel
theorem dX12_weighs_244 : decode cX12_weighs 244 = .ok (.aload_n 0, 1) := by decide +kernel
theorem dX12_weighs_245 : decode cX12_weighs 245 = .ok (.getfield 220, 3) := by decide +kernel
theorem dX12_weighs_248 : decode cX12_weighs 248 = .ok (.if_icmp .ge 24, 3) := by decide +kernel
theorem dX12_weighs_251 : decode cX12_weighs 251 = .ok (.aload_n 0, 1) := by decide +kernel
theorem dX12_weighs_252 : decode cX12_weighs 252 = .ok (.dup, 1) := by decide +kernel
theorem dX12_weighs_253 : decode cX12_weighs 253 = .ok (.getfield 362, 3) := by decide +kernel
theorem dX12_weighs_256 : decode cX12_weighs 256 = .ok (.aload_n 0, 1) := by decide +kernel
theorem dX12_weighs_257 : decode cX12_weighs 257 = .ok (.getfield 76, 3) := by decide +kernel
theorem dX12_weighs_260 : decode cX12_weighs 260 = .ok (.iload_n 3, 1) := by decide +kernel
theorem dX12_weighs_261 : decode cX12_weighs 261 = .ok (.laload, 1) := by decide +kernel
theorem dX12_weighs_262 : decode cX12_weighs 262 = .ok (.ladd, 1) := by decide +kernel
theorem dX12_weighs_263 : decode cX12_weighs 263 = .ok (.putfield 362, 3) := by decide +kernel
theorem dX12_weighs_266 : decode cX12_weighs 266 = .ok (.iinc 3 1, 3) := by decide +kernel
theorem dX12_weighs_269 : decode cX12_weighs 269 = .ok (.goto (-26), 3) := by decide +kernel
theorem dX12_weighs_272 : decode cX12_weighs 272 = .ok (.return_, 1) := by decide +kernel
theorem dX12_chanceOf_0 : decode cX12_chanceOf 0 = .ok (.ldc2_w 365, 3) := by decide +kernel
theorem dX12_chanceOf_3 : decode cX12_chanceOf 3 = .ok (.aload_n 0, 1) := by decide +kernel
theorem dX12_chanceOf_4 : decode cX12_chanceOf 4 = .ok (.getfield 76, 3) := by decide +kernel
theorem dX12_chanceOf_7 : decode cX12_chanceOf 7 = .ok (.iload_n 1, 1) := by decide +kernel
theorem dX12_chanceOf_8 : decode cX12_chanceOf 8 = .ok (.laload, 1) := by decide +kernel
theorem dX12_chanceOf_9 : decode cX12_chanceOf 9 = .ok (.lmul, 1) := by decide +kernel
theorem dX12_chanceOf_10 : decode cX12_chanceOf 10 = .ok (.aload_n 0, 1) := by decide +kernel
theorem dX12_chanceOf_11 : decode cX12_chanceOf 11 = .ok (.getfield 362, 3) := by decide +kernel
theorem dX12_chanceOf_14 : decode cX12_chanceOf 14 = .ok (.ldiv, 1) := by decide +kernel
theorem dX12_chanceOf_15 : decode cX12_chanceOf 15 = .ok (.l2i, 1) := by decide +kernel
theorem dX12_chanceOf_16 : decode cX12_chanceOf 16 = .ok (.ireturn, 1) := by decide +kernel
theorem dX12_kindOf_0 : decode cX12_kindOf 0 = .ok (.aload_n 0, 1) := by decide +kernel
theorem dX12_kindOf_1 : decode cX12_kindOf 1 = .ok (.getfield 305, 3) := by decide +kernel
theorem dX12_kindOf_4 : decode cX12_kindOf 4 = .ok (.aload_n 0, 1) := by decide +kernel
theorem dX12_kindOf_5 : decode cX12_kindOf 5 = .ok (.getfield 308, 3) := by decide +kernel
theorem dX12_kindOf_8 : decode cX12_kindOf 8 = .ok (.if_icmp .ne 19, 3) := by decide +kernel
theorem dX12_kindOf_11 : decode cX12_kindOf 11 = .ok (.iload_n 1, 1) := by decide +kernel
theorem dX12_kindOf_12 : decode cX12_kindOf 12 = .ok (.aload_n 0, 1) := by decide +kernel
theorem dX12_kindOf_13 : decode cX12_kindOf 13 = .ok (.getfield 305, 3) := by decide +kernel
theorem dX12_kindOf_16 : decode cX12_kindOf 16 = .ok (.if_icmp .ne 7, 3) := by decide +kernel
theorem dX12_kindOf_19 : decode cX12_kindOf 19 = .ok (.iconst 0, 1) := by decide +kernel
theorem dX12_kindOf_20 : decode cX12_kindOf 20 = .ok (.goto 32, 3) := by decide +kernel
theorem dX12_kindOf_23 : decode cX12_kindOf 23 = .ok (.iconst 3, 1) := by decide +kernel
theorem dX12_kindOf_24 : decode cX12_kindOf 24 = .ok (.goto 28, 3) := by decide +kernel
theorem dX12_kindOf_27 : decode cX12_kindOf 27 = .ok (.iload_n 1, 1) := by decide +kernel
theorem dX12_kindOf_28 : decode cX12_kindOf 28 = .ok (.aload_n 0, 1) := by decide +kernel
theorem dX12_kindOf_29 : decode cX12_kindOf 29 = .ok (.getfield 305, 3) := by decide +kernel
theorem dX12_kindOf_32 : decode cX12_kindOf 32 = .ok (.if_icmp .ne 7, 3) := by decide +kernel
theorem dX12_kindOf_35 : decode cX12_kindOf 35 = .ok (.iconst 1, 1) := by decide +kernel
theorem dX12_kindOf_36 : decode cX12_kindOf 36 = .ok (.goto 16, 3) := by decide +kernel
theorem dX12_kindOf_39 : decode cX12_kindOf 39 = .ok (.iload_n 1, 1) := by decide +kernel
theorem dX12_kindOf_40 : decode cX12_kindOf 40 = .ok (.aload_n 0, 1) := by decide +kernel
theorem dX12_kindOf_41 : decode cX12_kindOf 41 = .ok (.getfield 308, 3) := by decide +kernel
theorem dX12_kindOf_44 : decode cX12_kindOf 44 = .ok (.if_icmp .ne 7, 3) := by decide +kernel
theorem dX12_kindOf_47 : decode cX12_kindOf 47 = .ok (.iconst 2, 1) := by decide +kernel
theorem dX12_kindOf_48 : decode cX12_kindOf 48 = .ok (.goto 4, 3) := by decide +kernel
theorem dX12_kindOf_51 : decode cX12_kindOf 51 = .ok (.iconst 3, 1) := by decide +kernel
theorem dX12_kindOf_52 : decode cX12_kindOf 52 = .ok (.ireturn, 1) := by decide +kernel
theorem dX12_chanceOfKind_0 : decode cX12_chanceOfKind 0 = .ok (.lconst 0, 1) := by decide +kernel
theorem dX12_chanceOfKind_1 : decode cX12_chanceOfKind 1 = .ok (.lstore_n 2, 1) := by decide +kernel
theorem dX12_chanceOfKind_2 : decode cX12_chanceOfKind 2 = .ok (.iconst 0, 1) := by decide +kernel
theorem dX12_chanceOfKind_3 : decode cX12_chanceOfKind 3 = .ok (.istore 4, 2) := by decide +kernel
theorem dX12_chanceOfKind_5 : decode cX12_chanceOfKind 5 = .ok (.iload 4, 2) := by decide +kernel
theorem dX12_chanceOfKind_7 : decode cX12_chanceOfKind 7 = .ok (.aload_n 0, 1) := by decide +kernel
theorem dX12_chanceOfKind_8 : decode cX12_chanceOfKind 8 = .ok (.getfield 220, 3) := by decide +kernel
theorem dX12_chanceOfKind_11 : decode cX12_chanceOfKind 11 = .ok (.if_icmp .ge 33, 3) := by decide +kernel
theorem dX12_chanceOfKind_14 : decode cX12_chanceOfKind 14 = .ok (.lload_n 2, 1) := by decide +kernel
theorem dX12_chanceOfKind_15 : decode cX12_chanceOfKind 15 = .ok (.aload_n 0, 1) := by decide +kernel
theorem dX12_chanceOfKind_16 : decode cX12_chanceOfKind 16 = .ok (.iload 4, 2) := by decide +kernel
theorem dX12_chanceOfKind_18 : decode cX12_chanceOfKind 18 = .ok (.invokevirtual 367, 3) := by decide +kernel
theorem dX12_chanceOfKind_21 : decode cX12_chanceOfKind 21 = .ok (.iload_n 1, 1) := by decide +kernel
theorem dX12_chanceOfKind_22 : decode cX12_chanceOfKind 22 = .ok (.if_icmp .ne 13, 3) := by decide +kernel
theorem dX12_chanceOfKind_25 : decode cX12_chanceOfKind 25 = .ok (.aload_n 0, 1) := by decide +kernel
theorem dX12_chanceOfKind_26 : decode cX12_chanceOfKind 26 = .ok (.getfield 76, 3) := by decide +kernel
theorem dX12_chanceOfKind_29 : decode cX12_chanceOfKind 29 = .ok (.iload 4, 2) := by decide +kernel
theorem dX12_chanceOfKind_31 : decode cX12_chanceOfKind 31 = .ok (.laload, 1) := by decide +kernel
theorem dX12_chanceOfKind_32 : decode cX12_chanceOfKind 32 = .ok (.goto 4, 3) := by decide +kernel
theorem dX12_chanceOfKind_35 : decode cX12_chanceOfKind 35 = .ok (.lconst 0, 1) := by decide +kernel
theorem dX12_chanceOfKind_36 : decode cX12_chanceOfKind 36 = .ok (.ladd, 1) := by decide +kernel
theorem dX12_chanceOfKind_37 : decode cX12_chanceOfKind 37 = .ok (.lstore_n 2, 1) := by decide +kernel
theorem dX12_chanceOfKind_38 : decode cX12_chanceOfKind 38 = .ok (.iinc 4 1, 3) := by decide +kernel
theorem dX12_chanceOfKind_41 : decode cX12_chanceOfKind 41 = .ok (.goto (-36), 3) := by decide +kernel
theorem dX12_chanceOfKind_44 : decode cX12_chanceOfKind 44 = .ok (.ldc2_w 365, 3) := by decide +kernel
theorem dX12_chanceOfKind_47 : decode cX12_chanceOfKind 47 = .ok (.lload_n 2, 1) := by decide +kernel
theorem dX12_chanceOfKind_48 : decode cX12_chanceOfKind 48 = .ok (.lmul, 1) := by decide +kernel
theorem dX12_chanceOfKind_49 : decode cX12_chanceOfKind 49 = .ok (.aload_n 0, 1) := by decide +kernel
theorem dX12_chanceOfKind_50 : decode cX12_chanceOfKind 50 = .ok (.getfield 362, 3) := by decide +kernel
theorem dX12_chanceOfKind_53 : decode cX12_chanceOfKind 53 = .ok (.ldiv, 1) := by decide +kernel
theorem dX12_chanceOfKind_54 : decode cX12_chanceOfKind 54 = .ok (.l2i, 1) := by decide +kernel
theorem dX12_chanceOfKind_55 : decode cX12_chanceOfKind 55 = .ok (.ireturn, 1) := by decide +kernel
theorem dX12_likeliest_0 : decode cX12_likeliest 0 = .ok (.iconst 0, 1) := by decide +kernel
theorem dX12_likeliest_1 : decode cX12_likeliest 1 = .ok (.istore_n 1, 1) := by decide +kernel
theorem dX12_likeliest_2 : decode cX12_likeliest 2 = .ok (.iconst 1, 1) := by decide +kernel
theorem dX12_likeliest_3 : decode cX12_likeliest 3 = .ok (.istore_n 2, 1) := by decide +kernel
theorem dX12_likeliest_4 : decode cX12_likeliest 4 = .ok (.iload_n 2, 1) := by decide +kernel
theorem dX12_likeliest_5 : decode cX12_likeliest 5 = .ok (.aload_n 0, 1) := by decide +kernel
theorem dX12_likeliest_6 : decode cX12_likeliest 6 = .ok (.getfield 220, 3) := by decide +kernel
theorem dX12_likeliest_9 : decode cX12_likeliest 9 = .ok (.if_icmp .ge 27, 3) := by decide +kernel
theorem dX12_likeliest_12 : decode cX12_likeliest 12 = .ok (.aload_n 0, 1) := by decide +kernel
theorem dX12_likeliest_13 : decode cX12_likeliest 13 = .ok (.getfield 76, 3) := by decide +kernel
theorem dX12_likeliest_16 : decode cX12_likeliest 16 = .ok (.iload_n 2, 1) := by decide +kernel
theorem dX12_likeliest_17 : decode cX12_likeliest 17 = .ok (.laload, 1) := by decide +kernel
theorem dX12_likeliest_18 : decode cX12_likeliest 18 = .ok (.aload_n 0, 1) := by decide +kernel
theorem dX12_likeliest_19 : decode cX12_likeliest 19 = .ok (.getfield 76, 3) := by decide +kernel
theorem dX12_likeliest_22 : decode cX12_likeliest 22 = .ok (.iload_n 1, 1) := by decide +kernel
theorem dX12_likeliest_23 : decode cX12_likeliest 23 = .ok (.laload, 1) := by decide +kernel
theorem dX12_likeliest_24 : decode cX12_likeliest 24 = .ok (.lcmp, 1) := by decide +kernel
theorem dX12_likeliest_25 : decode cX12_likeliest 25 = .ok (.ifCond .le 5, 3) := by decide +kernel
theorem dX12_likeliest_28 : decode cX12_likeliest 28 = .ok (.iload_n 2, 1) := by decide +kernel
theorem dX12_likeliest_29 : decode cX12_likeliest 29 = .ok (.istore_n 1, 1) := by decide +kernel
theorem dX12_likeliest_30 : decode cX12_likeliest 30 = .ok (.iinc 2 1, 3) := by decide +kernel
theorem dX12_likeliest_33 : decode cX12_likeliest 33 = .ok (.goto (-29), 3) := by decide +kernel
theorem dX12_likeliest_36 : decode cX12_likeliest 36 = .ok (.iload_n 1, 1) := by decide +kernel
theorem dX12_likeliest_37 : decode cX12_likeliest 37 = .ok (.ireturn, 1) := by decide +kernel
theorem dX12_noticedNow_0 : decode cX12_noticedNow 0 = .ok (.bipush 16, 2) := by decide +kernel
theorem dX12_noticedNow_2 : decode cX12_noticedNow 2 = .ok (.aload_n 0, 1) := by decide +kernel
theorem dX12_noticedNow_3 : decode cX12_noticedNow 3 = .ok (.getfield 323, 3) := by decide +kernel
theorem dX12_noticedNow_6 : decode cX12_noticedNow 6 = .ok (.isub, 1) := by decide +kernel
theorem dX12_noticedNow_7 : decode cX12_noticedNow 7 = .ok (.i2l, 1) := by decide +kernel
theorem dX12_noticedNow_8 : decode cX12_noticedNow 8 = .ok (.aload_n 0, 1) := by decide +kernel
theorem dX12_noticedNow_9 : decode cX12_noticedNow 9 = .ok (.getfield 326, 3) := by decide +kernel
theorem dX12_noticedNow_12 : decode cX12_noticedNow 12 = .ok (.lmul, 1) := by decide +kernel
theorem dX12_noticedNow_13 : decode cX12_noticedNow 13 = .ok (.aload_n 0, 1) := by decide +kernel
theorem dX12_noticedNow_14 : decode cX12_noticedNow 14 = .ok (.getfield 329, 3) := by decide +kernel
theorem dX12_noticedNow_17 : decode cX12_noticedNow 17 = .ok (.lmul, 1) := by decide +kernel
theorem dX12_noticedNow_18 : decode cX12_noticedNow 18 = .ok (.lstore_n 1, 1) := by decide +kernel
theorem dX12_noticedNow_19 : decode cX12_noticedNow 19 = .ok (.aload_n 0, 1) := by decide +kernel
theorem dX12_noticedNow_20 : decode cX12_noticedNow 20 = .ok (.getfield 323, 3) := by decide +kernel
theorem dX12_noticedNow_23 : decode cX12_noticedNow 23 = .ok (.aload_n 0, 1) := by decide +kernel
theorem dX12_noticedNow_24 : decode cX12_noticedNow 24 = .ok (.getfield 220, 3) := by decide +kernel
theorem dX12_noticedNow_27 : decode cX12_noticedNow 27 = .ok (.imul, 1) := by decide +kernel
theorem dX12_noticedNow_28 : decode cX12_noticedNow 28 = .ok (.i2l, 1) := by decide +kernel
theorem dX12_noticedNow_29 : decode cX12_noticedNow 29 = .ok (.aload_n 0, 1) := by decide +kernel
theorem dX12_noticedNow_30 : decode cX12_noticedNow 30 = .ok (.getfield 332, 3) := by decide +kernel
theorem dX12_noticedNow_33 : decode cX12_noticedNow 33 = .ok (.lmul, 1) := by decide +kernel
theorem dX12_noticedNow_34 : decode cX12_noticedNow 34 = .ok (.lstore_n 3, 1) := by decide +kernel
theorem dX12_noticedNow_35 : decode cX12_noticedNow 35 = .ok (.lload_n 1, 1) := by decide +kernel
theorem dX12_noticedNow_36 : decode cX12_noticedNow 36 = .ok (.lload_n 3, 1) := by decide +kernel
theorem dX12_noticedNow_37 : decode cX12_noticedNow 37 = .ok (.ladd, 1) := by decide +kernel
theorem dX12_noticedNow_38 : decode cX12_noticedNow 38 = .ok (.lconst 0, 1) := by decide +kernel
theorem dX12_noticedNow_39 : decode cX12_noticedNow 39 = .ok (.lcmp, 1) := by decide +kernel
theorem dX12_noticedNow_40 : decode cX12_noticedNow 40 = .ok (.ifCond .ne 9, 3) := by decide +kernel
theorem dX12_noticedNow_43 : decode cX12_noticedNow 43 = .ok (.sipush 1000, 3) := by decide +kernel
theorem dX12_noticedNow_46 : decode cX12_noticedNow 46 = .ok (.goto 13, 3) := by decide +kernel
theorem dX12_noticedNow_49 : decode cX12_noticedNow 49 = .ok (.ldc2_w 365, 3) := by decide +kernel
theorem dX12_noticedNow_52 : decode cX12_noticedNow 52 = .ok (.lload_n 1, 1) := by decide +kernel
theorem dX12_noticedNow_53 : decode cX12_noticedNow 53 = .ok (.lmul, 1) := by decide +kernel
theorem dX12_noticedNow_54 : decode cX12_noticedNow 54 = .ok (.lload_n 1, 1) := by decide +kernel
theorem dX12_noticedNow_55 : decode cX12_noticedNow 55 = .ok (.lload_n 3, 1) := by decide +kernel
theorem dX12_noticedNow_56 : decode cX12_noticedNow 56 = .ok (.ladd, 1) := by decide +kernel
theorem dX12_noticedNow_57 : decode cX12_noticedNow 57 = .ok (.ldiv, 1) := by decide +kernel
theorem dX12_noticedNow_58 : decode cX12_noticedNow 58 = .ok (.l2i, 1) := by decide +kernel
theorem dX12_noticedNow_59 : decode cX12_noticedNow 59 = .ok (.ireturn, 1) := by decide +kernel
theorem dX12_weighsIf_0 : decode cX12_weighsIf 0 = .ok (.iload_n 1, 1) := by decide +kernel
theorem dX12_weighsIf_1 : decode cX12_weighsIf 1 = .ok (.invokestatic 370, 3) := by decide +kernel
theorem dX12_weighsIf_4 : decode cX12_weighsIf 4 = .ok (.ifCond .eq 14, 3) := by decide +kernel
theorem dX12_weighsIf_7 : decode cX12_weighsIf 7 = .ok (.aload_n 0, 1) := by decide +kernel
theorem dX12_weighsIf_8 : decode cX12_weighsIf 8 = .ok (.iload_n 2, 1) := by decide +kernel
theorem dX12_weighsIf_9 : decode cX12_weighsIf 9 = .ok (.iload_n 3, 1) := by decide +kernel
theorem dX12_weighsIf_10 : decode cX12_weighsIf 10 = .ok (.iload 4, 2) := by decide +kernel
theorem dX12_weighsIf_12 : decode cX12_weighsIf 12 = .ok (.invokevirtual 373, 3) := by decide +kernel
theorem dX12_weighsIf_15 : decode cX12_weighsIf 15 = .ok (.ifCond .ne 5, 3) := by decide +kernel
theorem dX12_weighsIf_18 : decode cX12_weighsIf 18 = .ok (.iconst 0, 1) := by decide +kernel
theorem dX12_weighsIf_19 : decode cX12_weighsIf 19 = .ok (.ireturn, 1) := by decide +kernel
theorem dX12_weighsIf_20 : decode cX12_weighsIf 20 = .ok (.aload_n 0, 1) := by decide +kernel
theorem dX12_weighsIf_21 : decode cX12_weighsIf 21 = .ok (.iload_n 2, 1) := by decide +kernel
theorem dX12_weighsIf_22 : decode cX12_weighsIf 22 = .ok (.iload_n 3, 1) := by decide +kernel
theorem dX12_weighsIf_23 : decode cX12_weighsIf 23 = .ok (.iload 4, 2) := by decide +kernel
theorem dX12_weighsIf_25 : decode cX12_weighsIf 25 = .ok (.invokevirtual 376, 3) := by decide +kernel
theorem dX12_weighsIf_28 : decode cX12_weighsIf 28 = .ok (.aload_n 0, 1) := by decide +kernel
theorem dX12_weighsIf_29 : decode cX12_weighsIf 29 = .ok (.iload_n 1, 1) := by decide +kernel
theorem dX12_weighsIf_30 : decode cX12_weighsIf 30 = .ok (.invokevirtual 380, 3) := by decide +kernel
theorem dX12_weighsIf_33 : decode cX12_weighsIf 33 = .ok (.iconst 1, 1) := by decide +kernel
theorem dX12_weighsIf_34 : decode cX12_weighsIf 34 = .ok (.ireturn, 1) := by decide +kernel
theorem dX12_weight_0 : decode cX12_weight 0 = .ok (.aload_n 0, 1) := by decide +kernel
theorem dX12_weight_1 : decode cX12_weight 1 = .ok (.iload_n 1, 1) := by decide +kernel
theorem dX12_weight_2 : decode cX12_weight 2 = .ok (.iload_n 2, 1) := by decide +kernel
theorem dX12_weight_3 : decode cX12_weight 3 = .ok (.iload_n 3, 1) := by decide +kernel
theorem dX12_weight_4 : decode cX12_weight 4 = .ok (.iload 4, 2) := by decide +kernel
theorem dX12_weight_6 : decode cX12_weight 6 = .ok (.invokevirtual 383, 3) := by decide +kernel
theorem dX12_weight_9 : decode cX12_weight 9 = .ok (.ifCond .eq 24, 3) := by decide +kernel
theorem dX12_weight_12 : decode cX12_weight 12 = .ok (.iload 5, 2) := by decide +kernel
theorem dX12_weight_14 : decode cX12_weight 14 = .ok (.iconst (-1), 1) := by decide +kernel
theorem dX12_weight_15 : decode cX12_weight 15 = .ok (.if_icmp .eq 20, 3) := by decide +kernel
theorem dX12_weight_18 : decode cX12_weight 18 = .ok (.iload 5, 2) := by decide +kernel
theorem dX12_weight_20 : decode cX12_weight 20 = .ok (.iconst 0, 1) := by decide +kernel
theorem dX12_weight_21 : decode cX12_weight 21 = .ok (.aload_n 0, 1) := by decide +kernel
theorem dX12_weight_22 : decode cX12_weight 22 = .ok (.getfield 220, 3) := by decide +kernel
theorem dX12_weight_25 : decode cX12_weight 25 = .ok (.iconst 1, 1) := by decide +kernel
theorem dX12_weight_26 : decode cX12_weight 26 = .ok (.isub, 1) := by decide +kernel
theorem dX12_weight_27 : decode cX12_weight 27 = .ok (.invokestatic 98, 3) := by decide +kernel
theorem dX12_weight_30 : decode cX12_weight 30 = .ok (.ifCond .ne 5, 3) := by decide +kernel
theorem dX12_weight_33 : decode cX12_weight 33 = .ok (.iconst (-1), 1) := by decide +kernel
theorem dX12_weight_34 : decode cX12_weight 34 = .ok (.ireturn, 1) := by decide +kernel
theorem dX12_weight_35 : decode cX12_weight 35 = .ok (.iload 5, 2) := by decide +kernel
theorem dX12_weight_37 : decode cX12_weight 37 = .ok (.iconst (-1), 1) := by decide +kernel
theorem dX12_weight_38 : decode cX12_weight 38 = .ok (.if_icmp .ne 10, 3) := by decide +kernel
theorem dX12_weight_41 : decode cX12_weight 41 = .ok (.aload_n 0, 1) := by decide +kernel
theorem dX12_weight_42 : decode cX12_weight 42 = .ok (.getfield 362, 3) := by decide +kernel
theorem dX12_weight_45 : decode cX12_weight 45 = .ok (.goto 10, 3) := by decide +kernel
theorem dX12_weight_48 : decode cX12_weight 48 = .ok (.aload_n 0, 1) := by decide +kernel
theorem dX12_weight_49 : decode cX12_weight 49 = .ok (.getfield 76, 3) := by decide +kernel
theorem dX12_weight_52 : decode cX12_weight 52 = .ok (.iload 5, 2) := by decide +kernel
theorem dX12_weight_54 : decode cX12_weight 54 = .ok (.laload, 1) := by decide +kernel
theorem dX12_weight_55 : decode cX12_weight 55 = .ok (.l2i, 1) := by decide +kernel
theorem dX12_weight_56 : decode cX12_weight 56 = .ok (.ireturn, 1) := by decide +kernel
theorem dX12_chance_0 : decode cX12_chance 0 = .ok (.aload_n 0, 1) := by decide +kernel
theorem dX12_chance_1 : decode cX12_chance 1 = .ok (.iload_n 1, 1) := by decide +kernel
theorem dX12_chance_2 : decode cX12_chance 2 = .ok (.iload_n 2, 1) := by decide +kernel
theorem dX12_chance_3 : decode cX12_chance 3 = .ok (.iload_n 3, 1) := by decide +kernel
theorem dX12_chance_4 : decode cX12_chance 4 = .ok (.iload 4, 2) := by decide +kernel
theorem dX12_chance_6 : decode cX12_chance 6 = .ok (.invokevirtual 383, 3) := by decide +kernel
theorem dX12_chance_9 : decode cX12_chance 9 = .ok (.ifCond .eq 27, 3) := by decide +kernel
theorem dX12_chance_12 : decode cX12_chance 12 = .ok (.iload 5, 2) := by decide +kernel
theorem dX12_chance_14 : decode cX12_chance 14 = .ok (.iconst 0, 1) := by decide +kernel
theorem dX12_chance_15 : decode cX12_chance 15 = .ok (.aload_n 0, 1) := by decide +kernel
theorem dX12_chance_16 : decode cX12_chance 16 = .ok (.getfield 220, 3) := by decide +kernel
theorem dX12_chance_19 : decode cX12_chance 19 = .ok (.iconst 1, 1) := by decide +kernel
theorem dX12_chance_20 : decode cX12_chance 20 = .ok (.isub, 1) := by decide +kernel
theorem dX12_chance_21 : decode cX12_chance 21 = .ok (.invokestatic 98, 3) := by decide +kernel
theorem dX12_chance_24 : decode cX12_chance 24 = .ok (.ifCond .eq 12, 3) := by decide +kernel
theorem dX12_chance_27 : decode cX12_chance 27 = .ok (.aload_n 0, 1) := by decide +kernel
theorem dX12_chance_28 : decode cX12_chance 28 = .ok (.iload 5, 2) := by decide +kernel
theorem dX12_chance_30 : decode cX12_chance 30 = .ok (.invokevirtual 387, 3) := by decide +kernel
theorem dX12_chance_33 : decode cX12_chance 33 = .ok (.goto 4, 3) := by decide +kernel
theorem dX12_chance_36 : decode cX12_chance 36 = .ok (.iconst (-1), 1) := by decide +kernel
theorem dX12_chance_37 : decode cX12_chance 37 = .ok (.ireturn, 1) := by decide +kernel
theorem dX12_kind_0 : decode cX12_kind 0 = .ok (.aload_n 0, 1) := by decide +kernel
theorem dX12_kind_1 : decode cX12_kind 1 = .ok (.iload_n 1, 1) := by decide +kernel
theorem dX12_kind_2 : decode cX12_kind 2 = .ok (.iload_n 2, 1) := by decide +kernel
theorem dX12_kind_3 : decode cX12_kind 3 = .ok (.iload_n 3, 1) := by decide +kernel
theorem dX12_kind_4 : decode cX12_kind 4 = .ok (.iload 4, 2) := by decide +kernel
theorem dX12_kind_6 : decode cX12_kind 6 = .ok (.invokevirtual 383, 3) := by decide +kernel
theorem dX12_kind_9 : decode cX12_kind 9 = .ok (.ifCond .eq 22, 3) := by decide +kernel
theorem dX12_kind_12 : decode cX12_kind 12 = .ok (.iload 5, 2) := by decide +kernel
theorem dX12_kind_14 : decode cX12_kind 14 = .ok (.iconst 0, 1) := by decide +kernel
theorem dX12_kind_15 : decode cX12_kind 15 = .ok (.iconst 3, 1) := by decide +kernel
theorem dX12_kind_16 : decode cX12_kind 16 = .ok (.invokestatic 98, 3) := by decide +kernel
theorem dX12_kind_19 : decode cX12_kind 19 = .ok (.ifCond .eq 12, 3) := by decide +kernel
theorem dX12_kind_22 : decode cX12_kind 22 = .ok (.aload_n 0, 1) := by decide +kernel
theorem dX12_kind_23 : decode cX12_kind 23 = .ok (.iload 5, 2) := by decide +kernel
theorem dX12_kind_25 : decode cX12_kind 25 = .ok (.invokevirtual 390, 3) := by decide +kernel
theorem dX12_kind_28 : decode cX12_kind 28 = .ok (.goto 4, 3) := by decide +kernel
theorem dX12_kind_31 : decode cX12_kind 31 = .ok (.iconst (-1), 1) := by decide +kernel
theorem dX12_kind_32 : decode cX12_kind 32 = .ok (.ireturn, 1) := by decide +kernel
theorem dX12_likely_0 : decode cX12_likely 0 = .ok (.aload_n 0, 1) := by decide +kernel
theorem dX12_likely_1 : decode cX12_likely 1 = .ok (.iload_n 1, 1) := by decide +kernel
theorem dX12_likely_2 : decode cX12_likely 2 = .ok (.iload_n 2, 1) := by decide +kernel
theorem dX12_likely_3 : decode cX12_likely 3 = .ok (.iload_n 3, 1) := by decide +kernel
theorem dX12_likely_4 : decode cX12_likely 4 = .ok (.iload 4, 2) := by decide +kernel
theorem dX12_likely_6 : decode cX12_likely 6 = .ok (.invokevirtual 383, 3) := by decide +kernel
theorem dX12_likely_9 : decode cX12_likely 9 = .ok (.ifCond .eq 10, 3) := by decide +kernel
theorem dX12_likely_12 : decode cX12_likely 12 = .ok (.aload_n 0, 1) := by decide +kernel
theorem dX12_likely_13 : decode cX12_likely 13 = .ok (.invokevirtual 393, 3) := by decide +kernel
theorem dX12_likely_16 : decode cX12_likely 16 = .ok (.goto 4, 3) := by decide +kernel
theorem dX12_likely_19 : decode cX12_likely 19 = .ok (.iconst (-1), 1) := by decide +kernel
theorem dX12_likely_20 : decode cX12_likely 20 = .ok (.ireturn, 1) := by decide +kernel
theorem dX12_noticed_0 : decode cX12_noticed 0 = .ok (.aload_n 0, 1) := by decide +kernel
theorem dX12_noticed_1 : decode cX12_noticed 1 = .ok (.iconst 4, 1) := by decide +kernel
theorem dX12_noticed_2 : decode cX12_noticed 2 = .ok (.iload_n 1, 1) := by decide +kernel
theorem dX12_noticed_3 : decode cX12_noticed 3 = .ok (.iload_n 2, 1) := by decide +kernel
theorem dX12_noticed_4 : decode cX12_noticed 4 = .ok (.iload_n 3, 1) := by decide +kernel
theorem dX12_noticed_5 : decode cX12_noticed 5 = .ok (.invokevirtual 383, 3) := by decide +kernel
theorem dX12_noticed_8 : decode cX12_noticed 8 = .ok (.ifCond .eq 10, 3) := by decide +kernel
theorem dX12_noticed_11 : decode cX12_noticed 11 = .ok (.aload_n 0, 1) := by decide +kernel
theorem dX12_noticed_12 : decode cX12_noticed 12 = .ok (.invokevirtual 396, 3) := by decide +kernel
theorem dX12_noticed_15 : decode cX12_noticed 15 = .ok (.goto 4, 3) := by decide +kernel
theorem dX12_noticed_18 : decode cX12_noticed 18 = .ok (.iconst (-1), 1) := by decide +kernel
theorem dX12_noticed_19 : decode cX12_noticed 19 = .ok (.ireturn, 1) := by decide +kernel
theorem dX12_answer_0 : decode cX12_answer 0 = .ok (.aload_n 0, 1) := by decide +kernel
theorem dX12_answer_1 : decode cX12_answer 1 = .ok (.iload_n 1, 1) := by decide +kernel
theorem dX12_answer_2 : decode cX12_answer 2 = .ok (.iload_n 2, 1) := by decide +kernel
theorem dX12_answer_3 : decode cX12_answer 3 = .ok (.iload_n 3, 1) := by decide +kernel
theorem dX12_answer_4 : decode cX12_answer 4 = .ok (.invokevirtual 373, 3) := by decide +kernel
theorem dX12_answer_7 : decode cX12_answer 7 = .ok (.ifCond .eq 38, 3) := by decide +kernel
theorem dX12_answer_10 : decode cX12_answer 10 = .ok (.iload 4, 2) := by decide +kernel
theorem dX12_answer_12 : decode cX12_answer 12 = .ok (.ifCond .lt 33, 3) := by decide +kernel
theorem dX12_answer_15 : decode cX12_answer 15 = .ok (.iload 4, 2) := by decide +kernel
theorem dX12_answer_17 : decode cX12_answer 17 = .ok (.bipush 100, 2) := by decide +kernel
theorem dX12_answer_19 : decode cX12_answer 19 = .ok (.idiv, 1) := by decide +kernel
theorem dX12_answer_20 : decode cX12_answer 20 = .ok (.iconst 1, 1) := by decide +kernel
theorem dX12_answer_21 : decode cX12_answer 21 = .ok (.if_icmp .gt 24, 3) := by decide +kernel
theorem dX12_answer_24 : decode cX12_answer 24 = .ok (.iload 4, 2) := by decide +kernel
theorem dX12_answer_26 : decode cX12_answer 26 = .ok (.bipush 100, 2) := by decide +kernel
theorem dX12_answer_28 : decode cX12_answer 28 = .ok (.irem, 1) := by decide +kernel
theorem dX12_answer_29 : decode cX12_answer 29 = .ok (.aload_n 0, 1) := by decide +kernel
theorem dX12_answer_30 : decode cX12_answer 30 = .ok (.getfield 220, 3) := by decide +kernel
theorem dX12_answer_33 : decode cX12_answer 33 = .ok (.if_icmp .ge 12, 3) := by decide +kernel
theorem dX12_answer_36 : decode cX12_answer 36 = .ok (.aload_n 0, 1) := by decide +kernel
theorem dX12_answer_37 : decode cX12_answer 37 = .ok (.getfield 235, 3) := by decide +kernel
theorem dX12_answer_40 : decode cX12_answer 40 = .ok (.bipush 60, 2) := by decide +kernel
theorem dX12_answer_42 : decode cX12_answer 42 = .ok (.if_icmp .ne 5, 3) := by decide +kernel
theorem dX12_answer_45 : decode cX12_answer 45 = .ok (.iconst (-1), 1) := by decide +kernel
theorem dX12_answer_46 : decode cX12_answer 46 = .ok (.ireturn, 1) := by decide +kernel
theorem dX12_answer_47 : decode cX12_answer 47 = .ok (.aload_n 0, 1) := by decide +kernel
theorem dX12_answer_48 : decode cX12_answer 48 = .ok (.iload_n 1, 1) := by decide +kernel
theorem dX12_answer_49 : decode cX12_answer 49 = .ok (.iload_n 2, 1) := by decide +kernel
theorem dX12_answer_50 : decode cX12_answer 50 = .ok (.iload_n 3, 1) := by decide +kernel
theorem dX12_answer_51 : decode cX12_answer 51 = .ok (.iload 4, 2) := by decide +kernel
theorem dX12_answer_53 : decode cX12_answer 53 = .ok (.bipush 100, 2) := by decide +kernel
theorem dX12_answer_55 : decode cX12_answer 55 = .ok (.irem, 1) := by decide +kernel
theorem dX12_answer_56 : decode cX12_answer 56 = .ok (.iload 4, 2) := by decide +kernel
theorem dX12_answer_58 : decode cX12_answer 58 = .ok (.bipush 100, 2) := by decide +kernel
theorem dX12_answer_60 : decode cX12_answer 60 = .ok (.idiv, 1) := by decide +kernel
theorem dX12_answer_61 : decode cX12_answer 61 = .ok (.invokevirtual 399, 3) := by decide +kernel
theorem dX12_answer_64 : decode cX12_answer 64 = .ok (.aload_n 0, 1) := by decide +kernel
theorem dX12_answer_65 : decode cX12_answer 65 = .ok (.getfield 235, 3) := by decide +kernel
theorem dX12_answer_68 : decode cX12_answer 68 = .ok (.ireturn, 1) := by decide +kernel
theorem dX12_keepsAnswer_0 : decode cX12_keepsAnswer 0 = .ok (.iconst 5, 1) := by decide +kernel
theorem dX12_keepsAnswer_1 : decode cX12_keepsAnswer 1 = .ok (.aload_n 0, 1) := by decide +kernel
theorem dX12_keepsAnswer_2 : decode cX12_keepsAnswer 2 = .ok (.getfield 235, 3) := by decide +kernel
theorem dX12_keepsAnswer_5 : decode cX12_keepsAnswer 5 = .ok (.imul, 1) := by decide +kernel
theorem dX12_keepsAnswer_6 : decode cX12_keepsAnswer 6 = .ok (.istore 6, 2) := by decide +kernel
theorem dX12_keepsAnswer_8 : decode cX12_keepsAnswer 8 = .ok (.aload_n 0, 1) := by decide +kernel
theorem dX12_keepsAnswer_9 : decode cX12_keepsAnswer 9 = .ok (.getfield 43, 3) := by decide +kernel
theorem dX12_keepsAnswer_12 : decode cX12_keepsAnswer 12 = .ok (.iload 6, 2) := by decide +kernel
theorem dX12_keepsAnswer_14 : decode cX12_keepsAnswer 14 = .ok (.iload_n 1, 1) := by decide +kernel
theorem dX12_keepsAnswer_15 : decode cX12_keepsAnswer 15 = .ok (.iastore, 1) := by decide +kernel
theorem dX12_keepsAnswer_16 : decode cX12_keepsAnswer 16 = .ok (.aload_n 0, 1) := by decide +kernel
theorem dX12_keepsAnswer_17 : decode cX12_keepsAnswer 17 = .ok (.getfield 43, 3) := by decide +kernel
theorem dX12_keepsAnswer_20 : decode cX12_keepsAnswer 20 = .ok (.iload 6, 2) := by decide +kernel
theorem dX12_keepsAnswer_22 : decode cX12_keepsAnswer 22 = .ok (.iconst 1, 1) := by decide +kernel
theorem dX12_keepsAnswer_23 : decode cX12_keepsAnswer 23 = .ok (.iadd, 1) := by decide +kernel
theorem dX12_keepsAnswer_24 : decode cX12_keepsAnswer 24 = .ok (.iload_n 2, 1) := by decide +kernel
theorem dX12_keepsAnswer_25 : decode cX12_keepsAnswer 25 = .ok (.iastore, 1) := by decide +kernel
theorem dX12_keepsAnswer_26 : decode cX12_keepsAnswer 26 = .ok (.aload_n 0, 1) := by decide +kernel
theorem dX12_keepsAnswer_27 : decode cX12_keepsAnswer 27 = .ok (.getfield 43, 3) := by decide +kernel
theorem dX12_keepsAnswer_30 : decode cX12_keepsAnswer 30 = .ok (.iload 6, 2) := by decide +kernel
theorem dX12_keepsAnswer_32 : decode cX12_keepsAnswer 32 = .ok (.iconst 2, 1) := by decide +kernel
theorem dX12_keepsAnswer_33 : decode cX12_keepsAnswer 33 = .ok (.iadd, 1) := by decide +kernel
theorem dX12_keepsAnswer_34 : decode cX12_keepsAnswer 34 = .ok (.iload_n 3, 1) := by decide +kernel
theorem dX12_keepsAnswer_35 : decode cX12_keepsAnswer 35 = .ok (.iastore, 1) := by decide +kernel
theorem dX12_keepsAnswer_36 : decode cX12_keepsAnswer 36 = .ok (.aload_n 0, 1) := by decide +kernel
theorem dX12_keepsAnswer_37 : decode cX12_keepsAnswer 37 = .ok (.getfield 43, 3) := by decide +kernel
theorem dX12_keepsAnswer_40 : decode cX12_keepsAnswer 40 = .ok (.iload 6, 2) := by decide +kernel
theorem dX12_keepsAnswer_42 : decode cX12_keepsAnswer 42 = .ok (.iconst 3, 1) := by decide +kernel
theorem dX12_keepsAnswer_43 : decode cX12_keepsAnswer 43 = .ok (.iadd, 1) := by decide +kernel
theorem dX12_keepsAnswer_44 : decode cX12_keepsAnswer 44 = .ok (.iload 4, 2) := by decide +kernel
theorem dX12_keepsAnswer_46 : decode cX12_keepsAnswer 46 = .ok (.iastore, 1) := by decide +kernel
theorem dX12_keepsAnswer_47 : decode cX12_keepsAnswer 47 = .ok (.aload_n 0, 1) := by decide +kernel
theorem dX12_keepsAnswer_48 : decode cX12_keepsAnswer 48 = .ok (.getfield 43, 3) := by decide +kernel
theorem dX12_keepsAnswer_51 : decode cX12_keepsAnswer 51 = .ok (.iload 6, 2) := by decide +kernel
theorem dX12_keepsAnswer_53 : decode cX12_keepsAnswer 53 = .ok (.iconst 4, 1) := by decide +kernel
theorem dX12_keepsAnswer_54 : decode cX12_keepsAnswer 54 = .ok (.iadd, 1) := by decide +kernel
theorem dX12_keepsAnswer_55 : decode cX12_keepsAnswer 55 = .ok (.iload 5, 2) := by decide +kernel
theorem dX12_keepsAnswer_57 : decode cX12_keepsAnswer 57 = .ok (.iastore, 1) := by decide +kernel
theorem dX12_keepsAnswer_58 : decode cX12_keepsAnswer 58 = .ok (.aload_n 0, 1) := by decide +kernel
theorem dX12_keepsAnswer_59 : decode cX12_keepsAnswer 59 = .ok (.dup, 1) := by decide +kernel
theorem dX12_keepsAnswer_60 : decode cX12_keepsAnswer 60 = .ok (.getfield 235, 3) := by decide +kernel
theorem dX12_keepsAnswer_63 : decode cX12_keepsAnswer 63 = .ok (.iconst 1, 1) := by decide +kernel
theorem dX12_keepsAnswer_64 : decode cX12_keepsAnswer 64 = .ok (.iadd, 1) := by decide +kernel
theorem dX12_keepsAnswer_65 : decode cX12_keepsAnswer 65 = .ok (.putfield 235, 3) := by decide +kernel
theorem dX12_keepsAnswer_68 : decode cX12_keepsAnswer 68 = .ok (.return_, 1) := by decide +kernel
theorem dX12_undo_0 : decode cX12_undo 0 = .ok (.aload_n 0, 1) := by decide +kernel
theorem dX12_undo_1 : decode cX12_undo 1 = .ok (.getfield 235, 3) := by decide +kernel
theorem dX12_undo_4 : decode cX12_undo 4 = .ok (.ifCond .ne 5, 3) := by decide +kernel
theorem dX12_undo_7 : decode cX12_undo 7 = .ok (.iconst (-1), 1) := by decide +kernel
theorem dX12_undo_8 : decode cX12_undo 8 = .ok (.ireturn, 1) := by decide +kernel
theorem dX12_undo_9 : decode cX12_undo 9 = .ok (.aload_n 0, 1) := by decide +kernel
theorem dX12_undo_10 : decode cX12_undo 10 = .ok (.dup, 1) := by decide +kernel
theorem dX12_undo_11 : decode cX12_undo 11 = .ok (.getfield 235, 3) := by decide +kernel
theorem dX12_undo_14 : decode cX12_undo 14 = .ok (.iconst 1, 1) := by decide +kernel
theorem dX12_undo_15 : decode cX12_undo 15 = .ok (.isub, 1) := by decide +kernel
theorem dX12_undo_16 : decode cX12_undo 16 = .ok (.putfield 235, 3) := by decide +kernel
theorem dX12_undo_19 : decode cX12_undo 19 = .ok (.aload_n 0, 1) := by decide +kernel
theorem dX12_undo_20 : decode cX12_undo 20 = .ok (.getfield 235, 3) := by decide +kernel
theorem dX12_undo_23 : decode cX12_undo 23 = .ok (.ireturn, 1) := by decide +kernel
theorem dX12_worksAnswer_0 : decode cX12_worksAnswer 0 = .ok (.aload_n 0, 1) := by decide +kernel
theorem dX12_worksAnswer_1 : decode cX12_worksAnswer 1 = .ok (.aload_n 0, 1) := by decide +kernel
theorem dX12_worksAnswer_2 : decode cX12_worksAnswer 2 = .ok (.getfield 43, 3) := by decide +kernel
theorem dX12_worksAnswer_5 : decode cX12_worksAnswer 5 = .ok (.iconst 5, 1) := by decide +kernel
theorem dX12_worksAnswer_6 : decode cX12_worksAnswer 6 = .ok (.iload_n 1, 1) := by decide +kernel
theorem dX12_worksAnswer_7 : decode cX12_worksAnswer 7 = .ok (.imul, 1) := by decide +kernel
theorem dX12_worksAnswer_8 : decode cX12_worksAnswer 8 = .ok (.iaload, 1) := by decide +kernel
theorem dX12_worksAnswer_9 : decode cX12_worksAnswer 9 = .ok (.aload_n 0, 1) := by decide +kernel
theorem dX12_worksAnswer_10 : decode cX12_worksAnswer 10 = .ok (.getfield 43, 3) := by decide +kernel
theorem dX12_worksAnswer_13 : decode cX12_worksAnswer 13 = .ok (.iconst 5, 1) := by decide +kernel
theorem dX12_worksAnswer_14 : decode cX12_worksAnswer 14 = .ok (.iload_n 1, 1) := by decide +kernel
theorem dX12_worksAnswer_15 : decode cX12_worksAnswer 15 = .ok (.imul, 1) := by decide +kernel
theorem dX12_worksAnswer_16 : decode cX12_worksAnswer 16 = .ok (.iconst 1, 1) := by decide +kernel
theorem dX12_worksAnswer_17 : decode cX12_worksAnswer 17 = .ok (.iadd, 1) := by decide +kernel
theorem dX12_worksAnswer_18 : decode cX12_worksAnswer 18 = .ok (.iaload, 1) := by decide +kernel
theorem dX12_worksAnswer_19 : decode cX12_worksAnswer 19 = .ok (.aload_n 0, 1) := by decide +kernel
theorem dX12_worksAnswer_20 : decode cX12_worksAnswer 20 = .ok (.getfield 43, 3) := by decide +kernel
theorem dX12_worksAnswer_23 : decode cX12_worksAnswer 23 = .ok (.iconst 5, 1) := by decide +kernel
theorem dX12_worksAnswer_24 : decode cX12_worksAnswer 24 = .ok (.iload_n 1, 1) := by decide +kernel
theorem dX12_worksAnswer_25 : decode cX12_worksAnswer 25 = .ok (.imul, 1) := by decide +kernel
theorem dX12_worksAnswer_26 : decode cX12_worksAnswer 26 = .ok (.iconst 2, 1) := by decide +kernel
theorem dX12_worksAnswer_27 : decode cX12_worksAnswer 27 = .ok (.iadd, 1) := by decide +kernel
theorem dX12_worksAnswer_28 : decode cX12_worksAnswer 28 = .ok (.iaload, 1) := by decide +kernel
theorem dX12_worksAnswer_29 : decode cX12_worksAnswer 29 = .ok (.invokevirtual 376, 3) := by decide +kernel
theorem dX12_worksAnswer_32 : decode cX12_worksAnswer 32 = .ok (.return_, 1) := by decide +kernel
theorem dX12_of_0 : decode cX12_of 0 = .ok (.iload_n 1, 1) := by decide +kernel
theorem dX12_of_1 : decode cX12_of 1 = .ok (.iconst 0, 1) := by decide +kernel
theorem dX12_of_2 : decode cX12_of 2 = .ok (.aload_n 0, 1) := by decide +kernel
theorem dX12_of_3 : decode cX12_of 3 = .ok (.getfield 235, 3) := by decide +kernel
theorem dX12_of_6 : decode cX12_of 6 = .ok (.iconst 1, 1) := by decide +kernel
theorem dX12_of_7 : decode cX12_of 7 = .ok (.isub, 1) := by decide +kernel
theorem dX12_of_8 : decode cX12_of 8 = .ok (.invokestatic 98, 3) := by decide +kernel
theorem dX12_of_11 : decode cX12_of 11 = .ok (.ifCond .eq 12, 3) := by decide +kernel
theorem dX12_of_14 : decode cX12_of 14 = .ok (.iload_n 2, 1) := by decide +kernel
theorem dX12_of_15 : decode cX12_of 15 = .ok (.iconst 0, 1) := by decide +kernel
theorem dX12_of_16 : decode cX12_of 16 = .ok (.iconst 5, 1) := by decide +kernel
theorem dX12_of_17 : decode cX12_of 17 = .ok (.invokestatic 98, 3) := by decide +kernel
theorem dX12_of_20 : decode cX12_of 20 = .ok (.ifCond .ne 7, 3) := by decide +kernel
theorem dX12_of_23 : decode cX12_of 23 = .ok (.ldc_w 295, 3) := by decide +kernel
theorem dX12_of_26 : decode cX12_of 26 = .ok (.ireturn, 1) := by decide +kernel
theorem dX12_of_27 : decode cX12_of 27 = .ok (.iload_n 2, 1) := by decide +kernel
theorem dX12_of_28 : decode cX12_of 28 = .ok (.iconst 5, 1) := by decide +kernel
theorem dX12_of_29 : decode cX12_of 29 = .ok (.if_icmp .ge 14, 3) := by decide +kernel
theorem dX12_of_32 : decode cX12_of 32 = .ok (.aload_n 0, 1) := by decide +kernel
theorem dX12_of_33 : decode cX12_of 33 = .ok (.getfield 43, 3) := by decide +kernel
theorem dX12_of_36 : decode cX12_of 36 = .ok (.iconst 5, 1) := by decide +kernel
theorem dX12_of_37 : decode cX12_of 37 = .ok (.iload_n 1, 1) := by decide +kernel
theorem dX12_of_38 : decode cX12_of 38 = .ok (.imul, 1) := by decide +kernel
theorem dX12_of_39 : decode cX12_of 39 = .ok (.iload_n 2, 1) := by decide +kernel
theorem dX12_of_40 : decode cX12_of 40 = .ok (.iadd, 1) := by decide +kernel
theorem dX12_of_41 : decode cX12_of 41 = .ok (.iaload, 1) := by decide +kernel
theorem dX12_of_42 : decode cX12_of 42 = .ok (.ireturn, 1) := by decide +kernel
theorem dX12_of_43 : decode cX12_of 43 = .ok (.aload_n 0, 1) := by decide +kernel
theorem dX12_of_44 : decode cX12_of 44 = .ok (.iload_n 1, 1) := by decide +kernel
theorem dX12_of_45 : decode cX12_of 45 = .ok (.invokevirtual 403, 3) := by decide +kernel
theorem dX12_of_48 : decode cX12_of 48 = .ok (.aload_n 0, 1) := by decide +kernel
theorem dX12_of_49 : decode cX12_of 49 = .ok (.aload_n 0, 1) := by decide +kernel
theorem dX12_of_50 : decode cX12_of 50 = .ok (.getfield 43, 3) := by decide +kernel
theorem dX12_of_53 : decode cX12_of 53 = .ok (.iconst 5, 1) := by decide +kernel
theorem dX12_of_54 : decode cX12_of 54 = .ok (.iload_n 1, 1) := by decide +kernel
theorem dX12_of_55 : decode cX12_of 55 = .ok (.imul, 1) := by decide +kernel
theorem dX12_of_56 : decode cX12_of 56 = .ok (.iconst 3, 1) := by decide +kernel
theorem dX12_of_57 : decode cX12_of 57 = .ok (.iadd, 1) := by decide +kernel
theorem dX12_of_58 : decode cX12_of 58 = .ok (.iaload, 1) := by decide +kernel
theorem dX12_of_59 : decode cX12_of 59 = .ok (.invokevirtual 367, 3) := by decide +kernel
theorem dX12_of_62 : decode cX12_of 62 = .ok (.ireturn, 1) := by decide +kernel
theorem dX12_ones_0 : decode cX12_ones 0 = .ok (.aload_n 0, 1) := by decide +kernel
theorem dX12_ones_1 : decode cX12_ones 1 = .ok (.getfield 82, 3) := by decide +kernel
theorem dX12_ones_4 : decode cX12_ones 4 = .ok (.iload_n 1, 1) := by decide +kernel
theorem dX12_ones_5 : decode cX12_ones 5 = .ok (.iconst 1, 1) := by decide +kernel
theorem dX12_ones_6 : decode cX12_ones 6 = .ok (.iastore, 1) := by decide +kernel
theorem dX12_ones_7 : decode cX12_ones 7 = .ok (.aload_n 0, 1) := by decide +kernel
theorem dX12_ones_8 : decode cX12_ones 8 = .ok (.getfield 79, 3) := by decide +kernel
theorem dX12_ones_11 : decode cX12_ones 11 = .ok (.iload_n 1, 1) := by decide +kernel
theorem dX12_ones_12 : decode cX12_ones 12 = .ok (.sipush 300, 3) := by decide +kernel
theorem dX12_ones_15 : decode cX12_ones 15 = .ok (.imul, 1) := by decide +kernel
theorem dX12_ones_16 : decode cX12_ones 16 = .ok (.iconst 1, 1) := by decide +kernel
theorem dX12_ones_17 : decode cX12_ones 17 = .ok (.iastore, 1) := by decide +kernel
theorem dX12_ones_18 : decode cX12_ones 18 = .ok (.return_, 1) := by decide +kernel
theorem dX12_multiplies_0 : decode cX12_multiplies 0 = .ok (.lconst 0, 1) := by decide +kernel
theorem dX12_multiplies_1 : decode cX12_multiplies 1 = .ok (.lstore 4, 2) := by decide +kernel
theorem dX12_multiplies_3 : decode cX12_multiplies 3 = .ok (.iconst 0, 1) := by decide +kernel
theorem dX12_multiplies_4 : decode cX12_multiplies 4 = .ok (.istore 6, 2) := by decide +kernel
theorem dX12_multiplies_6 : decode cX12_multiplies 6 = .ok (.iload 6, 2) := by decide +kernel
theorem dX12_multiplies_8 : decode cX12_multiplies 8 = .ok (.aload_n 0, 1) := by decide +kernel
theorem dX12_multiplies_9 : decode cX12_multiplies 9 = .ok (.getfield 82, 3) := by decide +kernel
theorem dX12_multiplies_12 : decode cX12_multiplies 12 = .ok (.iload_n 1, 1) := by decide +kernel
theorem dX12_multiplies_13 : decode cX12_multiplies 13 = .ok (.iaload, 1) := by decide +kernel
theorem dX12_multiplies_14 : decode cX12_multiplies 14 = .ok (.if_icmp .ge 58, 3) := by decide +kernel
theorem dX12_multiplies_17 : decode cX12_multiplies 17 = .ok (.aload_n 0, 1) := by decide +kernel
theorem dX12_multiplies_18 : decode cX12_multiplies 18 = .ok (.getfield 79, 3) := by decide +kernel
theorem dX12_multiplies_21 : decode cX12_multiplies 21 = .ok (.iload_n 1, 1) := by decide +kernel
theorem dX12_multiplies_22 : decode cX12_multiplies 22 = .ok (.sipush 300, 3) := by decide +kernel
theorem dX12_multiplies_25 : decode cX12_multiplies 25 = .ok (.imul, 1) := by decide +kernel
theorem dX12_multiplies_26 : decode cX12_multiplies 26 = .ok (.iload 6, 2) := by decide +kernel
theorem dX12_multiplies_28 : decode cX12_multiplies 28 = .ok (.iadd, 1) := by decide +kernel
theorem dX12_multiplies_29 : decode cX12_multiplies 29 = .ok (.iaload, 1) := by decide +kernel
theorem dX12_multiplies_30 : decode cX12_multiplies 30 = .ok (.i2l, 1) := by decide +kernel
theorem dX12_multiplies_31 : decode cX12_multiplies 31 = .ok (.lload_n 2, 1) := by decide +kernel
theorem dX12_multiplies_32 : decode cX12_multiplies 32 = .ok (.lmul, 1) := by decide +kernel
theorem dX12_multiplies_33 : decode cX12_multiplies 33 = .ok (.lload 4, 2) := by decide +kernel
theorem dX12_multiplies_35 : decode cX12_multiplies 35 = .ok (.ladd, 1) := by decide +kernel
theorem dX12_multiplies_36 : decode cX12_multiplies 36 = .ok (.lstore 7, 2) := by decide +kernel
theorem dX12_multiplies_38 : decode cX12_multiplies 38 = .ok (.aload_n 0, 1) := by decide +kernel
theorem dX12_multiplies_39 : decode cX12_multiplies 39 = .ok (.getfield 79, 3) := by decide +kernel
theorem dX12_multiplies_42 : decode cX12_multiplies 42 = .ok (.iload_n 1, 1) := by decide +kernel
theorem dX12_multiplies_43 : decode cX12_multiplies 43 = .ok (.sipush 300, 3) := by decide +kernel
theorem dX12_multiplies_46 : decode cX12_multiplies 46 = .ok (.imul, 1) := by decide +kernel
theorem dX12_multiplies_47 : decode cX12_multiplies 47 = .ok (.iload 6, 2) := by decide +kernel
theorem dX12_multiplies_49 : decode cX12_multiplies 49 = .ok (.iadd, 1) := by decide +kernel
theorem dX12_multiplies_50 : decode cX12_multiplies 50 = .ok (.lload 7, 2) := by decide +kernel
theorem dX12_multiplies_52 : decode cX12_multiplies 52 = .ok (.ldc2_w 406, 3) := by decide +kernel
theorem dX12_multiplies_55 : decode cX12_multiplies 55 = .ok (.lrem, 1) := by decide +kernel
theorem dX12_multiplies_56 : decode cX12_multiplies 56 = .ok (.l2i, 1) := by decide +kernel
theorem dX12_multiplies_57 : decode cX12_multiplies 57 = .ok (.iastore, 1) := by decide +kernel
theorem dX12_multiplies_58 : decode cX12_multiplies 58 = .ok (.lload 7, 2) := by decide +kernel
theorem dX12_multiplies_60 : decode cX12_multiplies 60 = .ok (.ldc2_w 406, 3) := by decide +kernel
theorem dX12_multiplies_63 : decode cX12_multiplies 63 = .ok (.ldiv, 1) := by decide +kernel
theorem dX12_multiplies_64 : decode cX12_multiplies 64 = .ok (.lstore 4, 2) := by decide +kernel
theorem dX12_multiplies_66 : decode cX12_multiplies 66 = .ok (.iinc 6 1, 3) := by decide +kernel
theorem dX12_multiplies_69 : decode cX12_multiplies 69 = .ok (.goto (-63), 3) := by decide +kernel
theorem dX12_multiplies_72 : decode cX12_multiplies 72 = .ok (.lload 4, 2) := by decide +kernel
theorem dX12_multiplies_74 : decode cX12_multiplies 74 = .ok (.lconst 0, 1) := by decide +kernel
theorem dX12_multiplies_75 : decode cX12_multiplies 75 = .ok (.lcmp, 1) := by decide +kernel
theorem dX12_multiplies_76 : decode cX12_multiplies 76 = .ok (.ifCond .le 48, 3) := by decide +kernel
theorem dX12_multiplies_79 : decode cX12_multiplies 79 = .ok (.aload_n 0, 1) := by decide +kernel
theorem dX12_multiplies_80 : decode cX12_multiplies 80 = .ok (.getfield 79, 3) := by decide +kernel
theorem dX12_multiplies_83 : decode cX12_multiplies 83 = .ok (.iload_n 1, 1) := by decide +kernel
theorem dX12_multiplies_84 : decode cX12_multiplies 84 = .ok (.sipush 300, 3) := by decide +kernel
theorem dX12_multiplies_87 : decode cX12_multiplies 87 = .ok (.imul, 1) := by decide +kernel
theorem dX12_multiplies_88 : decode cX12_multiplies 88 = .ok (.aload_n 0, 1) := by decide +kernel
theorem dX12_multiplies_89 : decode cX12_multiplies 89 = .ok (.getfield 82, 3) := by decide +kernel
theorem dX12_multiplies_92 : decode cX12_multiplies 92 = .ok (.iload_n 1, 1) := by decide +kernel
theorem dX12_multiplies_93 : decode cX12_multiplies 93 = .ok (.iaload, 1) := by decide +kernel
theorem dX12_multiplies_94 : decode cX12_multiplies 94 = .ok (.iadd, 1) := by decide +kernel
theorem dX12_multiplies_95 : decode cX12_multiplies 95 = .ok (.lload 4, 2) := by decide +kernel
theorem dX12_multiplies_97 : decode cX12_multiplies 97 = .ok (.ldc2_w 406, 3) := by decide +kernel
theorem dX12_multiplies_100 : decode cX12_multiplies 100 = .ok (.lrem, 1) := by decide +kernel
theorem dX12_multiplies_101 : decode cX12_multiplies 101 = .ok (.l2i, 1) := by decide +kernel
theorem dX12_multiplies_102 : decode cX12_multiplies 102 = .ok (.iastore, 1) := by decide +kernel
theorem dX12_multiplies_103 : decode cX12_multiplies 103 = .ok (.aload_n 0, 1) := by decide +kernel
theorem dX12_multiplies_104 : decode cX12_multiplies 104 = .ok (.getfield 82, 3) := by decide +kernel
theorem dX12_multiplies_107 : decode cX12_multiplies 107 = .ok (.iload_n 1, 1) := by decide +kernel
theorem dX12_multiplies_108 : decode cX12_multiplies 108 = .ok (.dup2, 1) := by decide +kernel
theorem dX12_multiplies_109 : decode cX12_multiplies 109 = .ok (.iaload, 1) := by decide +kernel
theorem dX12_multiplies_110 : decode cX12_multiplies 110 = .ok (.iconst 1, 1) := by decide +kernel
theorem dX12_multiplies_111 : decode cX12_multiplies 111 = .ok (.iadd, 1) := by decide +kernel
theorem dX12_multiplies_112 : decode cX12_multiplies 112 = .ok (.iastore, 1) := by decide +kernel
theorem dX12_multiplies_113 : decode cX12_multiplies 113 = .ok (.lload 4, 2) := by decide +kernel
theorem dX12_multiplies_115 : decode cX12_multiplies 115 = .ok (.ldc2_w 406, 3) := by decide +kernel
theorem dX12_multiplies_118 : decode cX12_multiplies 118 = .ok (.ldiv, 1) := by decide +kernel
theorem dX12_multiplies_119 : decode cX12_multiplies 119 = .ok (.lstore 4, 2) := by decide +kernel
theorem dX12_multiplies_121 : decode cX12_multiplies 121 = .ok (.goto (-49), 3) := by decide +kernel
theorem dX12_multiplies_124 : decode cX12_multiplies 124 = .ok (.aload_n 0, 1) := by decide +kernel
theorem dX12_multiplies_125 : decode cX12_multiplies 125 = .ok (.getfield 82, 3) := by decide +kernel
theorem dX12_multiplies_128 : decode cX12_multiplies 128 = .ok (.iload_n 1, 1) := by decide +kernel
theorem dX12_multiplies_129 : decode cX12_multiplies 129 = .ok (.iaload, 1) := by decide +kernel
theorem dX12_multiplies_130 : decode cX12_multiplies 130 = .ok (.iconst 1, 1) := by decide +kernel
theorem dX12_multiplies_131 : decode cX12_multiplies 131 = .ok (.if_icmp .le 38, 3) := by decide +kernel
theorem dX12_multiplies_134 : decode cX12_multiplies 134 = .ok (.aload_n 0, 1) := by decide +kernel
theorem dX12_multiplies_135 : decode cX12_multiplies 135 = .ok (.getfield 79, 3) := by decide +kernel
theorem dX12_multiplies_138 : decode cX12_multiplies 138 = .ok (.iload_n 1, 1) := by decide +kernel
theorem dX12_multiplies_139 : decode cX12_multiplies 139 = .ok (.sipush 300, 3) := by decide +kernel
theorem dX12_multiplies_142 : decode cX12_multiplies 142 = .ok (.imul, 1) := by decide +kernel
theorem dX12_multiplies_143 : decode cX12_multiplies 143 = .ok (.aload_n 0, 1) := by decide +kernel
theorem dX12_multiplies_144 : decode cX12_multiplies 144 = .ok (.getfield 82, 3) := by decide +kernel
theorem dX12_multiplies_147 : decode cX12_multiplies 147 = .ok (.iload_n 1, 1) := by decide +kernel
theorem dX12_multiplies_148 : decode cX12_multiplies 148 = .ok (.iaload, 1) := by decide +kernel
theorem dX12_multiplies_149 : decode cX12_multiplies 149 = .ok (.iadd, 1) := by decide +kernel
theorem dX12_multiplies_150 : decode cX12_multiplies 150 = .ok (.iconst 1, 1) := by decide +kernel
theorem dX12_multiplies_151 : decode cX12_multiplies 151 = .ok (.isub, 1) := by decide +kernel
theorem dX12_multiplies_152 : decode cX12_multiplies 152 = .ok (.iaload, 1) := by decide +kernel
theorem dX12_multiplies_153 : decode cX12_multiplies 153 = .ok (.ifCond .ne 16, 3) := by decide +kernel
theorem dX12_multiplies_156 : decode cX12_multiplies 156 = .ok (.aload_n 0, 1) := by decide +kernel
theorem dX12_multiplies_157 : decode cX12_multiplies 157 = .ok (.getfield 82, 3) := by decide +kernel
theorem dX12_multiplies_160 : decode cX12_multiplies 160 = .ok (.iload_n 1, 1) := by decide +kernel
theorem dX12_multiplies_161 : decode cX12_multiplies 161 = .ok (.dup2, 1) := by decide +kernel
theorem dX12_multiplies_162 : decode cX12_multiplies 162 = .ok (.iaload, 1) := by decide +kernel
theorem dX12_multiplies_163 : decode cX12_multiplies 163 = .ok (.iconst 1, 1) := by decide +kernel
theorem dX12_multiplies_164 : decode cX12_multiplies 164 = .ok (.isub, 1) := by decide +kernel
theorem dX12_multiplies_165 : decode cX12_multiplies 165 = .ok (.iastore, 1) := by decide +kernel
theorem dX12_multiplies_166 : decode cX12_multiplies 166 = .ok (.goto (-42), 3) := by decide +kernel
theorem dX12_multiplies_169 : decode cX12_multiplies 169 = .ok (.return_, 1) := by decide +kernel
theorem dX12_copies_0 : decode cX12_copies 0 = .ok (.aload_n 0, 1) := by decide +kernel
theorem dX12_copies_1 : decode cX12_copies 1 = .ok (.getfield 82, 3) := by decide +kernel
theorem dX12_copies_4 : decode cX12_copies 4 = .ok (.iload_n 2, 1) := by decide +kernel
theorem dX12_copies_5 : decode cX12_copies 5 = .ok (.aload_n 0, 1) := by decide +kernel
theorem dX12_copies_6 : decode cX12_copies 6 = .ok (.getfield 82, 3) := by decide +kernel
theorem dX12_copies_9 : decode cX12_copies 9 = .ok (.iload_n 1, 1) := by decide +kernel
theorem dX12_copies_10 : decode cX12_copies 10 = .ok (.iaload, 1) := by decide +kernel
theorem dX12_copies_11 : decode cX12_copies 11 = .ok (.iastore, 1) := by decide +kernel
theorem dX12_copies_12 : decode cX12_copies 12 = .ok (.iconst 0, 1) := by decide +kernel
theorem dX12_copies_13 : decode cX12_copies 13 = .ok (.istore_n 3, 1) := by decide +kernel
theorem dX12_copies_14 : decode cX12_copies 14 = .ok (.iload_n 3, 1) := by decide +kernel
theorem dX12_copies_15 : decode cX12_copies 15 = .ok (.aload_n 0, 1) := by decide +kernel
theorem dX12_copies_16 : decode cX12_copies 16 = .ok (.getfield 82, 3) := by decide +kernel
theorem dX12_copies_19 : decode cX12_copies 19 = .ok (.iload_n 1, 1) := by decide +kernel
theorem dX12_copies_20 : decode cX12_copies 20 = .ok (.iaload, 1) := by decide +kernel
theorem dX12_copies_21 : decode cX12_copies 21 = .ok (.if_icmp .ge 33, 3) := by decide +kernel
theorem dX12_copies_24 : decode cX12_copies 24 = .ok (.aload_n 0, 1) := by decide +kernel
theorem dX12_copies_25 : decode cX12_copies 25 = .ok (.getfield 79, 3) := by decide +kernel
theorem dX12_copies_28 : decode cX12_copies 28 = .ok (.iload_n 2, 1) := by decide +kernel
theorem dX12_copies_29 : decode cX12_copies 29 = .ok (.sipush 300, 3) := by decide +kernel
theorem dX12_copies_32 : decode cX12_copies 32 = .ok (.imul, 1) := by decide +kernel
theorem dX12_copies_33 : decode cX12_copies 33 = .ok (.iload_n 3, 1) := by decide +kernel
theorem dX12_copies_34 : decode cX12_copies 34 = .ok (.iadd, 1) := by decide +kernel
theorem dX12_copies_35 : decode cX12_copies 35 = .ok (.aload_n 0, 1) := by decide +kernel
theorem dX12_copies_36 : decode cX12_copies 36 = .ok (.getfield 79, 3) := by decide +kernel
theorem dX12_copies_39 : decode cX12_copies 39 = .ok (.iload_n 1, 1) := by decide +kernel
theorem dX12_copies_40 : decode cX12_copies 40 = .ok (.sipush 300, 3) := by decide +kernel
theorem dX12_copies_43 : decode cX12_copies 43 = .ok (.imul, 1) := by decide +kernel
theorem dX12_copies_44 : decode cX12_copies 44 = .ok (.iload_n 3, 1) := by decide +kernel
theorem dX12_copies_45 : decode cX12_copies 45 = .ok (.iadd, 1) := by decide +kernel
theorem dX12_copies_46 : decode cX12_copies 46 = .ok (.iaload, 1) := by decide +kernel
theorem dX12_copies_47 : decode cX12_copies 47 = .ok (.iastore, 1) := by decide +kernel
theorem dX12_copies_48 : decode cX12_copies 48 = .ok (.iinc 3 1, 3) := by decide +kernel
theorem dX12_copies_51 : decode cX12_copies 51 = .ok (.goto (-37), 3) := by decide +kernel
theorem dX12_copies_54 : decode cX12_copies 54 = .ok (.return_, 1) := by decide +kernel
theorem dX12_joins_0 : decode cX12_joins 0 = .ok (.aload_n 0, 1) := by decide +kernel
theorem dX12_joins_1 : decode cX12_joins 1 = .ok (.getfield 82, 3) := by decide +kernel
theorem dX12_joins_4 : decode cX12_joins 4 = .ok (.iload_n 1, 1) := by decide +kernel
theorem dX12_joins_5 : decode cX12_joins 5 = .ok (.iaload, 1) := by decide +kernel
theorem dX12_joins_6 : decode cX12_joins 6 = .ok (.aload_n 0, 1) := by decide +kernel
theorem dX12_joins_7 : decode cX12_joins 7 = .ok (.getfield 82, 3) := by decide +kernel
theorem dX12_joins_10 : decode cX12_joins 10 = .ok (.iload_n 2, 1) := by decide +kernel
theorem dX12_joins_11 : decode cX12_joins 11 = .ok (.iaload, 1) := by decide +kernel
theorem dX12_joins_12 : decode cX12_joins 12 = .ok (.iadd, 1) := by decide +kernel
theorem dX12_joins_13 : decode cX12_joins 13 = .ok (.istore 4, 2) := by decide +kernel
theorem dX12_joins_15 : decode cX12_joins 15 = .ok (.iconst 0, 1) := by decide +kernel
theorem dX12_joins_16 : decode cX12_joins 16 = .ok (.istore 5, 2) := by decide +kernel
theorem dX12_joins_18 : decode cX12_joins 18 = .ok (.iload 5, 2) := by decide +kernel
theorem dX12_joins_20 : decode cX12_joins 20 = .ok (.iload 4, 2) := by decide +kernel
theorem dX12_joins_22 : decode cX12_joins 22 = .ok (.if_icmp .ge 23, 3) := by decide +kernel
theorem dX12_joins_25 : decode cX12_joins 25 = .ok (.aload_n 0, 1) := by decide +kernel
theorem dX12_joins_26 : decode cX12_joins 26 = .ok (.getfield 79, 3) := by decide +kernel
theorem dX12_joins_29 : decode cX12_joins 29 = .ok (.iload_n 3, 1) := by decide +kernel
theorem dX12_joins_30 : decode cX12_joins 30 = .ok (.sipush 300, 3) := by decide +kernel
theorem dX12_joins_33 : decode cX12_joins 33 = .ok (.imul, 1) := by decide +kernel
theorem dX12_joins_34 : decode cX12_joins 34 = .ok (.iload 5, 2) := by decide +kernel
theorem dX12_joins_36 : decode cX12_joins 36 = .ok (.iadd, 1) := by decide +kernel
theorem dX12_joins_37 : decode cX12_joins 37 = .ok (.iconst 0, 1) := by decide +kernel
theorem dX12_joins_38 : decode cX12_joins 38 = .ok (.iastore, 1) := by decide +kernel
theorem dX12_joins_39 : decode cX12_joins 39 = .ok (.iinc 5 1, 3) := by decide +kernel
theorem dX12_joins_42 : decode cX12_joins 42 = .ok (.goto (-24), 3) := by decide +kernel
theorem dX12_joins_45 : decode cX12_joins 45 = .ok (.iconst 0, 1) := by decide +kernel
theorem dX12_joins_46 : decode cX12_joins 46 = .ok (.istore 5, 2) := by decide +kernel
theorem dX12_joins_48 : decode cX12_joins 48 = .ok (.iload 5, 2) := by decide +kernel
theorem dX12_joins_50 : decode cX12_joins 50 = .ok (.aload_n 0, 1) := by decide +kernel
theorem dX12_joins_51 : decode cX12_joins 51 = .ok (.getfield 82, 3) := by decide +kernel
theorem dX12_joins_54 : decode cX12_joins 54 = .ok (.iload_n 1, 1) := by decide +kernel
theorem dX12_joins_55 : decode cX12_joins 55 = .ok (.iaload, 1) := by decide +kernel
theorem dX12_joins_56 : decode cX12_joins 56 = .ok (.if_icmp .ge 137, 3) := by decide +kernel
theorem dX12_joins_59 : decode cX12_joins 59 = .ok (.lconst 0, 1) := by decide +kernel
theorem dX12_joins_60 : decode cX12_joins 60 = .ok (.lstore 6, 2) := by decide +kernel
theorem dX12_joins_62 : decode cX12_joins 62 = .ok (.iconst 0, 1) := by decide +kernel
theorem dX12_joins_63 : decode cX12_joins 63 = .ok (.istore 8, 2) := by decide +kernel
theorem dX12_joins_65 : decode cX12_joins 65 = .ok (.iload 8, 2) := by decide +kernel
theorem dX12_joins_67 : decode cX12_joins 67 = .ok (.aload_n 0, 1) := by decide +kernel
theorem dX12_joins_68 : decode cX12_joins 68 = .ok (.getfield 82, 3) := by decide +kernel
theorem dX12_joins_71 : decode cX12_joins 71 = .ok (.iload_n 2, 1) := by decide +kernel
theorem dX12_joins_72 : decode cX12_joins 72 = .ok (.iaload, 1) := by decide +kernel
theorem dX12_joins_73 : decode cX12_joins 73 = .ok (.if_icmp .lt 10, 3) := by decide +kernel
theorem dX12_joins_76 : decode cX12_joins 76 = .ok (.lload 6, 2) := by decide +kernel
theorem dX12_joins_78 : decode cX12_joins 78 = .ok (.lconst 0, 1) := by decide +kernel
theorem dX12_joins_79 : decode cX12_joins 79 = .ok (.lcmp, 1) := by decide +kernel
theorem dX12_joins_80 : decode cX12_joins 80 = .ok (.ifCond .le 107, 3) := by decide +kernel
theorem dX12_joins_83 : decode cX12_joins 83 = .ok (.aload_n 0, 1) := by decide +kernel
theorem dX12_joins_84 : decode cX12_joins 84 = .ok (.getfield 79, 3) := by decide +kernel
theorem dX12_joins_87 : decode cX12_joins 87 = .ok (.iload_n 3, 1) := by decide +kernel
theorem dX12_joins_88 : decode cX12_joins 88 = .ok (.sipush 300, 3) := by decide +kernel
theorem dX12_joins_91 : decode cX12_joins 91 = .ok (.imul, 1) := by decide +kernel
theorem dX12_joins_92 : decode cX12_joins 92 = .ok (.iload 5, 2) := by decide +kernel
theorem dX12_joins_94 : decode cX12_joins 94 = .ok (.iadd, 1) := by decide +kernel
theorem dX12_joins_95 : decode cX12_joins 95 = .ok (.iload 8, 2) := by decide +kernel
theorem dX12_joins_97 : decode cX12_joins 97 = .ok (.iadd, 1) := by decide +kernel
theorem dX12_joins_98 : decode cX12_joins 98 = .ok (.iaload, 1) := by decide +kernel
theorem dX12_joins_99 : decode cX12_joins 99 = .ok (.i2l, 1) := by decide +kernel
theorem dX12_joins_100 : decode cX12_joins 100 = .ok (.lload 6, 2) := by decide +kernel
theorem dX12_joins_102 : decode cX12_joins 102 = .ok (.ladd, 1) := by decide +kernel
theorem dX12_joins_103 : decode cX12_joins 103 = .ok (.iload 8, 2) := by decide +kernel
theorem dX12_joins_105 : decode cX12_joins 105 = .ok (.aload_n 0, 1) := by decide +kernel
theorem dX12_joins_106 : decode cX12_joins 106 = .ok (.getfield 82, 3) := by decide +kernel
theorem dX12_joins_109 : decode cX12_joins 109 = .ok (.iload_n 2, 1) := by decide +kernel
theorem dX12_joins_110 : decode cX12_joins 110 = .ok (.iaload, 1) := by decide +kernel
theorem dX12_joins_111 : decode cX12_joins 111 = .ok (.if_icmp .ge 35, 3) := by decide +kernel
theorem dX12_joins_114 : decode cX12_joins 114 = .ok (.aload_n 0, 1) := by decide +kernel
theorem dX12_joins_115 : decode cX12_joins 115 = .ok (.getfield 79, 3) := by decide +kernel
theorem dX12_joins_118 : decode cX12_joins 118 = .ok (.iload_n 1, 1) := by decide +kernel
theorem dX12_joins_119 : decode cX12_joins 119 = .ok (.sipush 300, 3) := by decide +kernel
theorem dX12_joins_122 : decode cX12_joins 122 = .ok (.imul, 1) := by decide +kernel
theorem dX12_joins_123 : decode cX12_joins 123 = .ok (.iload 5, 2) := by decide +kernel
theorem dX12_joins_125 : decode cX12_joins 125 = .ok (.iadd, 1) := by decide +kernel
theorem dX12_joins_126 : decode cX12_joins 126 = .ok (.iaload, 1) := by decide +kernel
theorem dX12_joins_127 : decode cX12_joins 127 = .ok (.i2l, 1) := by decide +kernel
theorem dX12_joins_128 : decode cX12_joins 128 = .ok (.aload_n 0, 1) := by decide +kernel
theorem dX12_joins_129 : decode cX12_joins 129 = .ok (.getfield 79, 3) := by decide +kernel
theorem dX12_joins_132 : decode cX12_joins 132 = .ok (.iload_n 2, 1) := by decide +kernel
theorem dX12_joins_133 : decode cX12_joins 133 = .ok (.sipush 300, 3) := by decide +kernel
theorem dX12_joins_136 : decode cX12_joins 136 = .ok (.imul, 1) := by decide +kernel
theorem dX12_joins_137 : decode cX12_joins 137 = .ok (.iload 8, 2) := by decide +kernel
theorem dX12_joins_139 : decode cX12_joins 139 = .ok (.iadd, 1) := by decide +kernel
theorem dX12_joins_140 : decode cX12_joins 140 = .ok (.iaload, 1) := by decide +kernel
theorem dX12_joins_141 : decode cX12_joins 141 = .ok (.i2l, 1) := by decide +kernel
theorem dX12_joins_142 : decode cX12_joins 142 = .ok (.lmul, 1) := by decide +kernel
theorem dX12_joins_143 : decode cX12_joins 143 = .ok (.goto 4, 3) := by decide +kernel
theorem dX12_joins_146 : decode cX12_joins 146 = .ok (.lconst 0, 1) := by decide +kernel
theorem dX12_joins_147 : decode cX12_joins 147 = .ok (.ladd, 1) := by decide +kernel
theorem dX12_joins_148 : decode cX12_joins 148 = .ok (.lstore 9, 2) := by decide +kernel
theorem dX12_joins_150 : decode cX12_joins 150 = .ok (.aload_n 0, 1) := by decide +kernel
theorem dX12_joins_151 : decode cX12_joins 151 = .ok (.getfield 79, 3) := by decide +kernel
theorem dX12_joins_154 : decode cX12_joins 154 = .ok (.iload_n 3, 1) := by decide +kernel
theorem dX12_joins_155 : decode cX12_joins 155 = .ok (.sipush 300, 3) := by decide +kernel
theorem dX12_joins_158 : decode cX12_joins 158 = .ok (.imul, 1) := by decide +kernel
theorem dX12_joins_159 : decode cX12_joins 159 = .ok (.iload 5, 2) := by decide +kernel
theorem dX12_joins_161 : decode cX12_joins 161 = .ok (.iadd, 1) := by decide +kernel
theorem dX12_joins_162 : decode cX12_joins 162 = .ok (.iload 8, 2) := by decide +kernel
theorem dX12_joins_164 : decode cX12_joins 164 = .ok (.iadd, 1) := by decide +kernel
theorem dX12_joins_165 : decode cX12_joins 165 = .ok (.lload 9, 2) := by decide +kernel
theorem dX12_joins_167 : decode cX12_joins 167 = .ok (.ldc2_w 406, 3) := by decide +kernel
theorem dX12_joins_170 : decode cX12_joins 170 = .ok (.lrem, 1) := by decide +kernel
theorem dX12_joins_171 : decode cX12_joins 171 = .ok (.l2i, 1) := by decide +kernel
theorem dX12_joins_172 : decode cX12_joins 172 = .ok (.iastore, 1) := by decide +kernel
theorem dX12_joins_173 : decode cX12_joins 173 = .ok (.lload 9, 2) := by decide +kernel
theorem dX12_joins_175 : decode cX12_joins 175 = .ok (.ldc2_w 406, 3) := by decide +kernel
theorem dX12_joins_178 : decode cX12_joins 178 = .ok (.ldiv, 1) := by decide +kernel
theorem dX12_joins_179 : decode cX12_joins 179 = .ok (.lstore 6, 2) := by decide +kernel
theorem dX12_joins_181 : decode cX12_joins 181 = .ok (.iinc 8 1, 3) := by decide +kernel
theorem dX12_joins_184 : decode cX12_joins 184 = .ok (.goto (-119), 3) := by decide +kernel
theorem dX12_joins_187 : decode cX12_joins 187 = .ok (.iinc 5 1, 3) := by decide +kernel
theorem dX12_joins_190 : decode cX12_joins 190 = .ok (.goto (-142), 3) := by decide +kernel
theorem dX12_joins_193 : decode cX12_joins 193 = .ok (.iload 4, 2) := by decide +kernel
theorem dX12_joins_195 : decode cX12_joins 195 = .ok (.iconst 1, 1) := by decide +kernel
theorem dX12_joins_196 : decode cX12_joins 196 = .ok (.if_icmp .le 27, 3) := by decide +kernel
theorem dX12_joins_199 : decode cX12_joins 199 = .ok (.aload_n 0, 1) := by decide +kernel
theorem dX12_joins_200 : decode cX12_joins 200 = .ok (.getfield 79, 3) := by decide +kernel
theorem dX12_joins_203 : decode cX12_joins 203 = .ok (.iload_n 3, 1) := by decide +kernel
theorem dX12_joins_204 : decode cX12_joins 204 = .ok (.sipush 300, 3) := by decide +kernel
theorem dX12_joins_207 : decode cX12_joins 207 = .ok (.imul, 1) := by decide +kernel
theorem dX12_joins_208 : decode cX12_joins 208 = .ok (.iload 4, 2) := by decide +kernel
theorem dX12_joins_210 : decode cX12_joins 210 = .ok (.iadd, 1) := by decide +kernel
theorem dX12_joins_211 : decode cX12_joins 211 = .ok (.iconst 1, 1) := by decide +kernel
theorem dX12_joins_212 : decode cX12_joins 212 = .ok (.isub, 1) := by decide +kernel
theorem dX12_joins_213 : decode cX12_joins 213 = .ok (.iaload, 1) := by decide +kernel
theorem dX12_joins_214 : decode cX12_joins 214 = .ok (.ifCond .ne 9, 3) := by decide +kernel
theorem dX12_joins_217 : decode cX12_joins 217 = .ok (.iinc 4 (-1), 3) := by decide +kernel
theorem dX12_joins_220 : decode cX12_joins 220 = .ok (.goto (-27), 3) := by decide +kernel
theorem dX12_joins_223 : decode cX12_joins 223 = .ok (.aload_n 0, 1) := by decide +kernel
theorem dX12_joins_224 : decode cX12_joins 224 = .ok (.getfield 82, 3) := by decide +kernel
theorem dX12_joins_227 : decode cX12_joins 227 = .ok (.iload_n 3, 1) := by decide +kernel
theorem dX12_joins_228 : decode cX12_joins 228 = .ok (.iload 4, 2) := by decide +kernel
theorem dX12_joins_230 : decode cX12_joins 230 = .ok (.iastore, 1) := by decide +kernel
theorem dX12_joins_231 : decode cX12_joins 231 = .ok (.return_, 1) := by decide +kernel
theorem dX12_compares_0 : decode cX12_compares 0 = .ok (.aload_n 0, 1) := by decide +kernel
theorem dX12_compares_1 : decode cX12_compares 1 = .ok (.getfield 82, 3) := by decide +kernel
theorem dX12_compares_4 : decode cX12_compares 4 = .ok (.iload_n 1, 1) := by decide +kernel
theorem dX12_compares_5 : decode cX12_compares 5 = .ok (.iaload, 1) := by decide +kernel
theorem dX12_compares_6 : decode cX12_compares 6 = .ok (.aload_n 0, 1) := by decide +kernel
theorem dX12_compares_7 : decode cX12_compares 7 = .ok (.getfield 82, 3) := by decide +kernel
theorem dX12_compares_10 : decode cX12_compares 10 = .ok (.iload_n 2, 1) := by decide +kernel
theorem dX12_compares_11 : decode cX12_compares 11 = .ok (.iaload, 1) := by decide +kernel
theorem dX12_compares_12 : decode cX12_compares 12 = .ok (.if_icmp .eq 24, 3) := by decide +kernel
theorem dX12_compares_15 : decode cX12_compares 15 = .ok (.aload_n 0, 1) := by decide +kernel
theorem dX12_compares_16 : decode cX12_compares 16 = .ok (.getfield 82, 3) := by decide +kernel
theorem dX12_compares_19 : decode cX12_compares 19 = .ok (.iload_n 1, 1) := by decide +kernel
theorem dX12_compares_20 : decode cX12_compares 20 = .ok (.iaload, 1) := by decide +kernel
theorem dX12_compares_21 : decode cX12_compares 21 = .ok (.aload_n 0, 1) := by decide +kernel
theorem dX12_compares_22 : decode cX12_compares 22 = .ok (.getfield 82, 3) := by decide +kernel
theorem dX12_compares_25 : decode cX12_compares 25 = .ok (.iload_n 2, 1) := by decide +kernel
theorem dX12_compares_26 : decode cX12_compares 26 = .ok (.iaload, 1) := by decide +kernel
theorem dX12_compares_27 : decode cX12_compares 27 = .ok (.if_icmp .ge 7, 3) := by decide +kernel
theorem dX12_compares_30 : decode cX12_compares 30 = .ok (.iconst (-1), 1) := by decide +kernel
theorem dX12_compares_31 : decode cX12_compares 31 = .ok (.goto 4, 3) := by decide +kernel
theorem dX12_compares_34 : decode cX12_compares 34 = .ok (.iconst 1, 1) := by decide +kernel
theorem dX12_compares_35 : decode cX12_compares 35 = .ok (.ireturn, 1) := by decide +kernel
theorem dX12_compares_36 : decode cX12_compares 36 = .ok (.aload_n 0, 1) := by decide +kernel
theorem dX12_compares_37 : decode cX12_compares 37 = .ok (.getfield 82, 3) := by decide +kernel
theorem dX12_compares_40 : decode cX12_compares 40 = .ok (.iload_n 1, 1) := by decide +kernel
theorem dX12_compares_41 : decode cX12_compares 41 = .ok (.iaload, 1) := by decide +kernel
theorem dX12_compares_42 : decode cX12_compares 42 = .ok (.iconst 1, 1) := by decide +kernel
theorem dX12_compares_43 : decode cX12_compares 43 = .ok (.isub, 1) := by decide +kernel
theorem dX12_compares_44 : decode cX12_compares 44 = .ok (.istore_n 3, 1) := by decide +kernel
theorem dX12_compares_45 : decode cX12_compares 45 = .ok (.iload_n 3, 1) := by decide +kernel
theorem dX12_compares_46 : decode cX12_compares 46 = .ok (.ifCond .lt 57, 3) := by decide +kernel
theorem dX12_compares_49 : decode cX12_compares 49 = .ok (.aload_n 0, 1) := by decide +kernel
theorem dX12_compares_50 : decode cX12_compares 50 = .ok (.getfield 79, 3) := by decide +kernel
theorem dX12_compares_53 : decode cX12_compares 53 = .ok (.iload_n 1, 1) := by decide +kernel
theorem dX12_compares_54 : decode cX12_compares 54 = .ok (.sipush 300, 3) := by decide +kernel
theorem dX12_compares_57 : decode cX12_compares 57 = .ok (.imul, 1) := by decide +kernel
theorem dX12_compares_58 : decode cX12_compares 58 = .ok (.iload_n 3, 1) := by decide +kernel
theorem dX12_compares_59 : decode cX12_compares 59 = .ok (.iadd, 1) := by decide +kernel
theorem dX12_compares_60 : decode cX12_compares 60 = .ok (.iaload, 1) := by decide +kernel
theorem dX12_compares_61 : decode cX12_compares 61 = .ok (.istore 4, 2) := by decide +kernel
theorem dX12_compares_63 : decode cX12_compares 63 = .ok (.aload_n 0, 1) := by decide +kernel
theorem dX12_compares_64 : decode cX12_compares 64 = .ok (.getfield 79, 3) := by decide +kernel
theorem dX12_compares_67 : decode cX12_compares 67 = .ok (.iload_n 2, 1) := by decide +kernel
theorem dX12_compares_68 : decode cX12_compares 68 = .ok (.sipush 300, 3) := by decide +kernel
theorem dX12_compares_71 : decode cX12_compares 71 = .ok (.imul, 1) := by decide +kernel
theorem dX12_compares_72 : decode cX12_compares 72 = .ok (.iload_n 3, 1) := by decide +kernel
theorem dX12_compares_73 : decode cX12_compares 73 = .ok (.iadd, 1) := by decide +kernel
theorem dX12_compares_74 : decode cX12_compares 74 = .ok (.iaload, 1) := by decide +kernel
theorem dX12_compares_75 : decode cX12_compares 75 = .ok (.istore 5, 2) := by decide +kernel
theorem dX12_compares_77 : decode cX12_compares 77 = .ok (.iload 4, 2) := by decide +kernel
theorem dX12_compares_79 : decode cX12_compares 79 = .ok (.iload 5, 2) := by decide +kernel
theorem dX12_compares_81 : decode cX12_compares 81 = .ok (.if_icmp .eq 16, 3) := by decide +kernel
theorem dX12_compares_84 : decode cX12_compares 84 = .ok (.iload 4, 2) := by decide +kernel
theorem dX12_compares_86 : decode cX12_compares 86 = .ok (.iload 5, 2) := by decide +kernel
theorem dX12_compares_88 : decode cX12_compares 88 = .ok (.if_icmp .ge 7, 3) := by decide +kernel
theorem dX12_compares_91 : decode cX12_compares 91 = .ok (.iconst (-1), 1) := by decide +kernel
theorem dX12_compares_92 : decode cX12_compares 92 = .ok (.goto 4, 3) := by decide +kernel
theorem dX12_compares_95 : decode cX12_compares 95 = .ok (.iconst 1, 1) := by decide +kernel
theorem dX12_compares_96 : decode cX12_compares 96 = .ok (.ireturn, 1) := by decide +kernel
theorem dX12_compares_97 : decode cX12_compares 97 = .ok (.iinc 3 (-1), 3) := by decide +kernel
theorem dX12_compares_100 : decode cX12_compares 100 = .ok (.goto (-55), 3) := by decide +kernel
theorem dX12_compares_103 : decode cX12_compares 103 = .ok (.iconst 0, 1) := by decide +kernel
theorem dX12_compares_104 : decode cX12_compares 104 = .ok (.ireturn, 1) := by decide +kernel
theorem dX12_fits_0 : decode cX12_fits 0 = .ok (.aload_n 0, 1) := by decide +kernel
theorem dX12_fits_1 : decode cX12_fits 1 = .ok (.iload_n 3, 1) := by decide +kernel
theorem dX12_fits_2 : decode cX12_fits 2 = .ok (.invokevirtual 408, 3) := by decide +kernel
theorem dX12_fits_5 : decode cX12_fits 5 = .ok (.aload_n 0, 1) := by decide +kernel
theorem dX12_fits_6 : decode cX12_fits 6 = .ok (.iload_n 3, 1) := by decide +kernel
theorem dX12_fits_7 : decode cX12_fits 7 = .ok (.iconst 1, 1) := by decide +kernel
theorem dX12_fits_8 : decode cX12_fits 8 = .ok (.iadd, 1) := by decide +kernel
theorem dX12_fits_9 : decode cX12_fits 9 = .ok (.invokevirtual 408, 3) := by decide +kernel
theorem dX12_fits_12 : decode cX12_fits 12 = .ok (.iconst 0, 1) := by decide +kernel
theorem dX12_fits_13 : decode cX12_fits 13 = .ok (.istore 4, 2) := by decide +kernel
theorem dX12_fits_15 : decode cX12_fits 15 = .ok (.iload 4, 2) := by decide +kernel
theorem dX12_fits_17 : decode cX12_fits 17 = .ok (.aload_n 0, 1) := by decide +kernel
theorem dX12_fits_18 : decode cX12_fits 18 = .ok (.getfield 235, 3) := by decide +kernel
theorem dX12_fits_21 : decode cX12_fits 21 = .ok (.if_icmp .ge 76, 3) := by decide +kernel
theorem dX12_fits_24 : decode cX12_fits 24 = .ok (.iload_n 2, 1) := by decide +kernel
theorem dX12_fits_25 : decode cX12_fits 25 = .ok (.iconst (-1), 1) := by decide +kernel
theorem dX12_fits_26 : decode cX12_fits 26 = .ok (.if_icmp .eq 22, 3) := by decide +kernel
theorem dX12_fits_29 : decode cX12_fits 29 = .ok (.aload_n 0, 1) := by decide +kernel
theorem dX12_fits_30 : decode cX12_fits 30 = .ok (.getfield 43, 3) := by decide +kernel
theorem dX12_fits_33 : decode cX12_fits 33 = .ok (.iconst 5, 1) := by decide +kernel
theorem dX12_fits_34 : decode cX12_fits 34 = .ok (.iload 4, 2) := by decide +kernel
theorem dX12_fits_36 : decode cX12_fits 36 = .ok (.imul, 1) := by decide +kernel
theorem dX12_fits_37 : decode cX12_fits 37 = .ok (.iaload, 1) := by decide +kernel
theorem dX12_fits_38 : decode cX12_fits 38 = .ok (.bipush 100, 2) := by decide +kernel
theorem dX12_fits_40 : decode cX12_fits 40 = .ok (.idiv, 1) := by decide +kernel
theorem dX12_fits_41 : decode cX12_fits 41 = .ok (.iload_n 2, 1) := by decide +kernel
theorem dX12_fits_42 : decode cX12_fits 42 = .ok (.if_icmp .eq 6, 3) := by decide +kernel
theorem dX12_fits_45 : decode cX12_fits 45 = .ok (.goto 46, 3) := by decide +kernel
theorem dX12_fits_48 : decode cX12_fits 48 = .ok (.aload_n 0, 1) := by decide +kernel
theorem dX12_fits_49 : decode cX12_fits 49 = .ok (.iload 4, 2) := by decide +kernel
theorem dX12_fits_51 : decode cX12_fits 51 = .ok (.invokevirtual 403, 3) := by decide +kernel
theorem dX12_fits_54 : decode cX12_fits 54 = .ok (.aload_n 0, 1) := by decide +kernel
theorem dX12_fits_55 : decode cX12_fits 55 = .ok (.iload_n 1, 1) := by decide +kernel
theorem dX12_fits_56 : decode cX12_fits 56 = .ok (.invokevirtual 380, 3) := by decide +kernel
theorem dX12_fits_59 : decode cX12_fits 59 = .ok (.aload_n 0, 1) := by decide +kernel
theorem dX12_fits_60 : decode cX12_fits 60 = .ok (.iload_n 3, 1) := by decide +kernel
theorem dX12_fits_61 : decode cX12_fits 61 = .ok (.aload_n 0, 1) := by decide +kernel
theorem dX12_fits_62 : decode cX12_fits 62 = .ok (.getfield 76, 3) := by decide +kernel
theorem dX12_fits_65 : decode cX12_fits 65 = .ok (.aload_n 0, 1) := by decide +kernel
theorem dX12_fits_66 : decode cX12_fits 66 = .ok (.getfield 43, 3) := by decide +kernel
theorem dX12_fits_69 : decode cX12_fits 69 = .ok (.iconst 5, 1) := by decide +kernel
theorem dX12_fits_70 : decode cX12_fits 70 = .ok (.iload 4, 2) := by decide +kernel
theorem dX12_fits_72 : decode cX12_fits 72 = .ok (.imul, 1) := by decide +kernel
theorem dX12_fits_73 : decode cX12_fits 73 = .ok (.iconst 3, 1) := by decide +kernel
theorem dX12_fits_74 : decode cX12_fits 74 = .ok (.iadd, 1) := by decide +kernel
theorem dX12_fits_75 : decode cX12_fits 75 = .ok (.iaload, 1) := by decide +kernel
theorem dX12_fits_76 : decode cX12_fits 76 = .ok (.laload, 1) := by decide +kernel
theorem dX12_fits_77 : decode cX12_fits 77 = .ok (.invokevirtual 411, 3) := by decide +kernel
theorem dX12_fits_80 : decode cX12_fits 80 = .ok (.aload_n 0, 1) := by decide +kernel
theorem dX12_fits_81 : decode cX12_fits 81 = .ok (.iload_n 3, 1) := by decide +kernel
theorem dX12_fits_82 : decode cX12_fits 82 = .ok (.iconst 1, 1) := by decide +kernel
theorem dX12_fits_83 : decode cX12_fits 83 = .ok (.iadd, 1) := by decide +kernel
theorem dX12_fits_84 : decode cX12_fits 84 = .ok (.aload_n 0, 1) := by decide +kernel
theorem dX12_fits_85 : decode cX12_fits 85 = .ok (.getfield 362, 3) := by decide +kernel
theorem dX12_fits_88 : decode cX12_fits 88 = .ok (.invokevirtual 411, 3) := by decide +kernel
theorem dX12_fits_91 : decode cX12_fits 91 = .ok (.iinc 4 1, 3) := by decide +kernel
theorem dX12_fits_94 : decode cX12_fits 94 = .ok (.goto (-79), 3) := by decide +kernel
theorem dX12_fits_97 : decode cX12_fits 97 = .ok (.return_, 1) := by decide +kernel
theorem dX12_against_0 : decode cX12_against 0 = .ok (.aload_n 0, 1) := by decide +kernel
theorem dX12_against_1 : decode cX12_against 1 = .ok (.iconst 0, 1) := by decide +kernel
theorem dX12_against_2 : decode cX12_against 2 = .ok (.iconst 3, 1) := by decide +kernel
theorem dX12_against_3 : decode cX12_against 3 = .ok (.iconst 4, 1) := by decide +kernel
theorem dX12_against_4 : decode cX12_against 4 = .ok (.invokevirtual 415, 3) := by decide +kernel
theorem dX12_against_7 : decode cX12_against 7 = .ok (.aload_n 0, 1) := by decide +kernel
theorem dX12_against_8 : decode cX12_against 8 = .ok (.iconst 2, 1) := by decide +kernel
theorem dX12_against_9 : decode cX12_against 9 = .ok (.iconst 1, 1) := by decide +kernel
theorem dX12_against_10 : decode cX12_against 10 = .ok (.iconst 5, 1) := by decide +kernel
theorem dX12_against_11 : decode cX12_against 11 = .ok (.invokevirtual 415, 3) := by decide +kernel
theorem dX12_against_14 : decode cX12_against 14 = .ok (.aload_n 0, 1) := by decide +kernel
theorem dX12_against_15 : decode cX12_against 15 = .ok (.iconst 4, 1) := by decide +kernel
theorem dX12_against_16 : decode cX12_against 16 = .ok (.iconst 5, 1) := by decide +kernel
theorem dX12_against_17 : decode cX12_against 17 = .ok (.invokevirtual 418, 3) := by decide +kernel
theorem dX12_against_20 : decode cX12_against 20 = .ok (.ireturn, 1) := by decide +kernel
theorem dX12_keeps_0 : decode cX12_keeps 0 = .ok (.aload_n 0, 1) := by decide +kernel
theorem dX12_keeps_1 : decode cX12_keeps 1 = .ok (.iconst 0, 1) := by decide +kernel
theorem dX12_keeps_2 : decode cX12_keeps 2 = .ok (.iconst 2, 1) := by decide +kernel
theorem dX12_keeps_3 : decode cX12_keeps 3 = .ok (.invokevirtual 421, 3) := by decide +kernel
theorem dX12_keeps_6 : decode cX12_keeps 6 = .ok (.aload_n 0, 1) := by decide +kernel
theorem dX12_keeps_7 : decode cX12_keeps 7 = .ok (.iconst 1, 1) := by decide +kernel
theorem dX12_keeps_8 : decode cX12_keeps 8 = .ok (.iconst 3, 1) := by decide +kernel
theorem dX12_keeps_9 : decode cX12_keeps 9 = .ok (.invokevirtual 421, 3) := by decide +kernel
theorem dX12_keeps_12 : decode cX12_keeps 12 = .ok (.return_, 1) := by decide +kernel
theorem dX12_more_0 : decode cX12_more 0 = .ok (.aload_n 0, 1) := by decide +kernel
theorem dX12_more_1 : decode cX12_more 1 = .ok (.getfield 216, 3) := by decide +kernel
theorem dX12_more_4 : decode cX12_more 4 = .ok (.ifCond .eq 30, 3) := by decide +kernel
theorem dX12_more_7 : decode cX12_more 7 = .ok (.iload_n 1, 1) := by decide +kernel
theorem dX12_more_8 : decode cX12_more 8 = .ok (.invokestatic 370, 3) := by decide +kernel
theorem dX12_more_11 : decode cX12_more 11 = .ok (.ifCond .eq 23, 3) := by decide +kernel
theorem dX12_more_14 : decode cX12_more 14 = .ok (.iload_n 2, 1) := by decide +kernel
theorem dX12_more_15 : decode cX12_more 15 = .ok (.invokestatic 370, 3) := by decide +kernel
theorem dX12_more_18 : decode cX12_more 18 = .ok (.ifCond .eq 16, 3) := by decide +kernel
theorem dX12_more_21 : decode cX12_more 21 = .ok (.iload_n 3, 1) := by decide +kernel
theorem dX12_more_22 : decode cX12_more 22 = .ok (.iconst (-1), 1) := by decide +kernel
theorem dX12_more_23 : decode cX12_more 23 = .ok (.if_icmp .eq 13, 3) := by decide +kernel
theorem dX12_more_26 : decode cX12_more 26 = .ok (.aload_n 0, 1) := by decide +kernel
theorem dX12_more_27 : decode cX12_more 27 = .ok (.iload_n 3, 1) := by decide +kernel
theorem dX12_more_28 : decode cX12_more 28 = .ok (.invokevirtual 302, 3) := by decide +kernel
theorem dX12_more_31 : decode cX12_more 31 = .ok (.ifCond .ne 5, 3) := by decide +kernel
theorem dX12_more_34 : decode cX12_more 34 = .ok (.iconst (-1), 1) := by decide +kernel
theorem dX12_more_35 : decode cX12_more 35 = .ok (.ireturn, 1) := by decide +kernel
theorem dX12_more_36 : decode cX12_more 36 = .ok (.aload_n 0, 1) := by decide +kernel
theorem dX12_more_37 : decode cX12_more 37 = .ok (.iload_n 2, 1) := by decide +kernel
theorem dX12_more_38 : decode cX12_more 38 = .ok (.iload_n 3, 1) := by decide +kernel
theorem dX12_more_39 : decode cX12_more 39 = .ok (.iconst 0, 1) := by decide +kernel
theorem dX12_more_40 : decode cX12_more 40 = .ok (.invokevirtual 424, 3) := by decide +kernel
theorem dX12_more_43 : decode cX12_more 43 = .ok (.aload_n 0, 1) := by decide +kernel
theorem dX12_more_44 : decode cX12_more 44 = .ok (.invokevirtual 427, 3) := by decide +kernel
theorem dX12_more_47 : decode cX12_more 47 = .ok (.aload_n 0, 1) := by decide +kernel
theorem dX12_more_48 : decode cX12_more 48 = .ok (.iload_n 1, 1) := by decide +kernel
theorem dX12_more_49 : decode cX12_more 49 = .ok (.iload_n 3, 1) := by decide +kernel
theorem dX12_more_50 : decode cX12_more 50 = .ok (.iconst 0, 1) := by decide +kernel
theorem dX12_more_51 : decode cX12_more 51 = .ok (.invokevirtual 424, 3) := by decide +kernel
theorem dX12_more_54 : decode cX12_more 54 = .ok (.aload_n 0, 1) := by decide +kernel
theorem dX12_more_55 : decode cX12_more 55 = .ok (.invokevirtual 430, 3) := by decide +kernel
theorem dX12_more_58 : decode cX12_more 58 = .ok (.istore 4, 2) := by decide +kernel
theorem dX12_more_60 : decode cX12_more 60 = .ok (.iload 4, 2) := by decide +kernel
theorem dX12_more_62 : decode cX12_more 62 = .ok (.ifCond .le 7, 3) := by decide +kernel
theorem dX12_more_65 : decode cX12_more 65 = .ok (.iconst 1, 1) := by decide +kernel
theorem dX12_more_66 : decode cX12_more 66 = .ok (.goto 13, 3) := by decide +kernel
theorem dX12_more_69 : decode cX12_more 69 = .ok (.iload 4, 2) := by decide +kernel
theorem dX12_more_71 : decode cX12_more 71 = .ok (.ifCond .ge 7, 3) := by decide +kernel
theorem dX12_more_74 : decode cX12_more 74 = .ok (.iconst 2, 1) := by decide +kernel
theorem dX12_more_75 : decode cX12_more 75 = .ok (.goto 4, 3) := by decide +kernel
theorem dX12_more_78 : decode cX12_more 78 = .ok (.iconst 0, 1) := by decide +kernel
theorem dX12_more_79 : decode cX12_more 79 = .ok (.ireturn, 1) := by decide +kernel
theorem dX12_best_0 : decode cX12_best 0 = .ok (.aload_n 0, 1) := by decide +kernel
theorem dX12_best_1 : decode cX12_best 1 = .ok (.getfield 216, 3) := by decide +kernel
theorem dX12_best_4 : decode cX12_best 4 = .ok (.ifCond .eq 16, 3) := by decide +kernel
theorem dX12_best_7 : decode cX12_best 7 = .ok (.iload_n 1, 1) := by decide +kernel
theorem dX12_best_8 : decode cX12_best 8 = .ok (.iconst (-1), 1) := by decide +kernel
theorem dX12_best_9 : decode cX12_best 9 = .ok (.if_icmp .eq 13, 3) := by decide +kernel
theorem dX12_best_12 : decode cX12_best 12 = .ok (.aload_n 0, 1) := by decide +kernel
theorem dX12_best_13 : decode cX12_best 13 = .ok (.iload_n 1, 1) := by decide +kernel
theorem dX12_best_14 : decode cX12_best 14 = .ok (.invokevirtual 302, 3) := by decide +kernel
theorem dX12_best_17 : decode cX12_best 17 = .ok (.ifCond .ne 5, 3) := by decide +kernel
theorem dX12_best_20 : decode cX12_best 20 = .ok (.iconst (-1), 1) := by decide +kernel
theorem dX12_best_21 : decode cX12_best 21 = .ok (.ireturn, 1) := by decide +kernel
theorem dX12_best_22 : decode cX12_best 22 = .ok (.iconst (-1), 1) := by decide +kernel
theorem dX12_best_23 : decode cX12_best 23 = .ok (.istore_n 2, 1) := by decide +kernel
theorem dX12_best_24 : decode cX12_best 24 = .ok (.iconst 0, 1) := by decide +kernel
theorem dX12_best_25 : decode cX12_best 25 = .ok (.istore_n 3, 1) := by decide +kernel
theorem dX12_best_26 : decode cX12_best 26 = .ok (.iload_n 3, 1) := by decide +kernel
theorem dX12_best_27 : decode cX12_best 27 = .ok (.bipush 7, 2) := by decide +kernel
theorem dX12_best_29 : decode cX12_best 29 = .ok (.if_icmp .ge 37, 3) := by decide +kernel
theorem dX12_best_32 : decode cX12_best 32 = .ok (.aload_n 0, 1) := by decide +kernel
theorem dX12_best_33 : decode cX12_best 33 = .ok (.iload_n 3, 1) := by decide +kernel
theorem dX12_best_34 : decode cX12_best 34 = .ok (.iload_n 1, 1) := by decide +kernel
theorem dX12_best_35 : decode cX12_best 35 = .ok (.iconst 0, 1) := by decide +kernel
theorem dX12_best_36 : decode cX12_best 36 = .ok (.invokevirtual 424, 3) := by decide +kernel
theorem dX12_best_39 : decode cX12_best 39 = .ok (.iload_n 2, 1) := by decide +kernel
theorem dX12_best_40 : decode cX12_best 40 = .ok (.iconst (-1), 1) := by decide +kernel
theorem dX12_best_41 : decode cX12_best 41 = .ok (.if_icmp .eq 13, 3) := by decide +kernel
theorem dX12_best_44 : decode cX12_best 44 = .ok (.aload_n 0, 1) := by decide +kernel
theorem dX12_best_45 : decode cX12_best 45 = .ok (.invokevirtual 430, 3) := by decide +kernel
theorem dX12_best_48 : decode cX12_best 48 = .ok (.ifCond .gt 6, 3) := by decide +kernel
theorem dX12_best_51 : decode cX12_best 51 = .ok (.goto 9, 3) := by decide +kernel
theorem dX12_best_54 : decode cX12_best 54 = .ok (.aload_n 0, 1) := by decide +kernel
theorem dX12_best_55 : decode cX12_best 55 = .ok (.invokevirtual 427, 3) := by decide +kernel
theorem dX12_best_58 : decode cX12_best 58 = .ok (.iload_n 3, 1) := by decide +kernel
theorem dX12_best_59 : decode cX12_best 59 = .ok (.istore_n 2, 1) := by decide +kernel
theorem dX12_best_60 : decode cX12_best 60 = .ok (.iinc 3 1, 3) := by decide +kernel
theorem dX12_best_63 : decode cX12_best 63 = .ok (.goto (-37), 3) := by decide +kernel
theorem dX12_best_66 : decode cX12_best 66 = .ok (.iload_n 2, 1) := by decide +kernel
theorem dX12_best_67 : decode cX12_best 67 = .ok (.ireturn, 1) := by decide +kernel
theorem dX12_own_0 : decode cX12_own 0 = .ok (.aload_n 0, 1) := by decide +kernel
theorem dX12_own_1 : decode cX12_own 1 = .ok (.iload_n 1, 1) := by decide +kernel
theorem dX12_own_2 : decode cX12_own 2 = .ok (.invokevirtual 302, 3) := by decide +kernel
theorem dX12_own_5 : decode cX12_own 5 = .ok (.ifCond .eq 12, 3) := by decide +kernel
theorem dX12_own_8 : decode cX12_own 8 = .ok (.iload_n 2, 1) := by decide +kernel
theorem dX12_own_9 : decode cX12_own 9 = .ok (.iconst 0, 1) := by decide +kernel
theorem dX12_own_10 : decode cX12_own 10 = .ok (.iconst 2, 1) := by decide +kernel
theorem dX12_own_11 : decode cX12_own 11 = .ok (.invokestatic 98, 3) := by decide +kernel
theorem dX12_own_14 : decode cX12_own 14 = .ok (.ifCond .ne 7, 3) := by decide +kernel
theorem dX12_own_17 : decode cX12_own 17 = .ok (.ldc_w 295, 3) := by decide +kernel
theorem dX12_own_20 : decode cX12_own 20 = .ok (.ireturn, 1) := by decide +kernel
theorem dX12_own_21 : decode cX12_own 21 = .ok (.iconst 4, 1) := by decide +kernel
theorem dX12_own_22 : decode cX12_own 22 = .ok (.iload_n 1, 1) := by decide +kernel
theorem dX12_own_23 : decode cX12_own 23 = .ok (.imul, 1) := by decide +kernel
theorem dX12_own_24 : decode cX12_own 24 = .ok (.istore_n 3, 1) := by decide +kernel
theorem dX12_own_25 : decode cX12_own 25 = .ok (.aload_n 0, 1) := by decide +kernel
theorem dX12_own_26 : decode cX12_own 26 = .ok (.getfield 40, 3) := by decide +kernel
theorem dX12_own_29 : decode cX12_own 29 = .ok (.iload_n 3, 1) := by decide +kernel
theorem dX12_own_30 : decode cX12_own 30 = .ok (.iaload, 1) := by decide +kernel
theorem dX12_own_31 : decode cX12_own 31 = .ok (.istore 4, 2) := by decide +kernel
theorem dX12_own_33 : decode cX12_own 33 = .ok (.aload_n 0, 1) := by decide +kernel
theorem dX12_own_34 : decode cX12_own 34 = .ok (.getfield 40, 3) := by decide +kernel
theorem dX12_own_37 : decode cX12_own 37 = .ok (.iload_n 3, 1) := by decide +kernel
theorem dX12_own_38 : decode cX12_own 38 = .ok (.iconst 1, 1) := by decide +kernel
theorem dX12_own_39 : decode cX12_own 39 = .ok (.iadd, 1) := by decide +kernel
theorem dX12_own_40 : decode cX12_own 40 = .ok (.iaload, 1) := by decide +kernel
theorem dX12_own_41 : decode cX12_own 41 = .ok (.istore 5, 2) := by decide +kernel
theorem dX12_own_43 : decode cX12_own 43 = .ok (.aload_n 0, 1) := by decide +kernel
theorem dX12_own_44 : decode cX12_own 44 = .ok (.getfield 40, 3) := by decide +kernel
theorem dX12_own_47 : decode cX12_own 47 = .ok (.iload_n 3, 1) := by decide +kernel
theorem dX12_own_48 : decode cX12_own 48 = .ok (.iconst 2, 1) := by decide +kernel
theorem dX12_own_49 : decode cX12_own 49 = .ok (.iadd, 1) := by decide +kernel
theorem dX12_own_50 : decode cX12_own 50 = .ok (.iaload, 1) := by decide +kernel
theorem dX12_own_51 : decode cX12_own 51 = .ok (.istore 6, 2) := by decide +kernel
theorem dX12_own_53 : decode cX12_own 53 = .ok (.ldc_w 295, 3) := by decide +kernel
theorem dX12_own_56 : decode cX12_own 56 = .ok (.istore 7, 2) := by decide +kernel
theorem dX12_own_58 : decode cX12_own 58 = .ok (.iconst 0, 1) := by decide +kernel
theorem dX12_own_59 : decode cX12_own 59 = .ok (.istore 8, 2) := by decide +kernel
theorem dX12_own_61 : decode cX12_own 61 = .ok (.iload_n 2, 1) := by decide +kernel
theorem dX12_own_62 : decode cX12_own 62 = .ok (.iconst 2, 1) := by decide +kernel
theorem dX12_own_63 : decode cX12_own 63 = .ok (.if_icmp .ne 75, 3) := by decide +kernel
theorem dX12_own_66 : decode cX12_own 66 = .ok (.iconst 0, 1) := by decide +kernel
theorem dX12_own_67 : decode cX12_own 67 = .ok (.istore 9, 2) := by decide +kernel
theorem dX12_own_69 : decode cX12_own 69 = .ok (.iload 9, 2) := by decide +kernel
theorem dX12_own_71 : decode cX12_own 71 = .ok (.bipush 16, 2) := by decide +kernel
theorem dX12_own_73 : decode cX12_own 73 = .ok (.if_icmp .gt 52, 3) := by decide +kernel
theorem dX12_own_76 : decode cX12_own 76 = .ok (.aload_n 0, 1) := by decide +kernel
theorem dX12_own_77 : decode cX12_own 77 = .ok (.getfield 40, 3) := by decide +kernel
theorem dX12_own_80 : decode cX12_own 80 = .ok (.iload_n 3, 1) := by decide +kernel
theorem dX12_own_81 : decode cX12_own 81 = .ok (.iconst 2, 1) := by decide +kernel
theorem dX12_own_82 : decode cX12_own 82 = .ok (.iadd, 1) := by decide +kernel
theorem dX12_own_83 : decode cX12_own 83 = .ok (.iload 9, 2) := by decide +kernel
theorem dX12_own_85 : decode cX12_own 85 = .ok (.iastore, 1) := by decide +kernel
theorem dX12_own_86 : decode cX12_own 86 = .ok (.aload_n 0, 1) := by decide +kernel
theorem dX12_own_87 : decode cX12_own 87 = .ok (.iconst 4, 1) := by decide +kernel
theorem dX12_own_88 : decode cX12_own 88 = .ok (.iload_n 1, 1) := by decide +kernel
theorem dX12_own_89 : decode cX12_own 89 = .ok (.iconst 0, 1) := by decide +kernel
theorem dX12_own_90 : decode cX12_own 90 = .ok (.invokevirtual 424, 3) := by decide +kernel
theorem dX12_own_93 : decode cX12_own 93 = .ok (.iload 7, 2) := by decide +kernel
theorem dX12_own_95 : decode cX12_own 95 = .ok (.ldc_w 295, 3) := by decide +kernel
theorem dX12_own_98 : decode cX12_own 98 = .ok (.if_icmp .eq 13, 3) := by decide +kernel
theorem dX12_own_101 : decode cX12_own 101 = .ok (.aload_n 0, 1) := by decide +kernel
theorem dX12_own_102 : decode cX12_own 102 = .ok (.invokevirtual 430, 3) := by decide +kernel
theorem dX12_own_105 : decode cX12_own 105 = .ok (.ifCond .gt 6, 3) := by decide +kernel
theorem dX12_own_108 : decode cX12_own 108 = .ok (.goto 11, 3) := by decide +kernel
theorem dX12_own_111 : decode cX12_own 111 = .ok (.aload_n 0, 1) := by decide +kernel
theorem dX12_own_112 : decode cX12_own 112 = .ok (.invokevirtual 427, 3) := by decide +kernel
theorem dX12_own_115 : decode cX12_own 115 = .ok (.iload 9, 2) := by decide +kernel
theorem dX12_own_117 : decode cX12_own 117 = .ok (.istore 7, 2) := by decide +kernel
theorem dX12_own_119 : decode cX12_own 119 = .ok (.iinc 9 1, 3) := by decide +kernel
theorem dX12_own_122 : decode cX12_own 122 = .ok (.goto (-53), 3) := by decide +kernel
theorem dX12_own_125 : decode cX12_own 125 = .ok (.aload_n 0, 1) := by decide +kernel
theorem dX12_own_126 : decode cX12_own 126 = .ok (.getfield 40, 3) := by decide +kernel
theorem dX12_own_129 : decode cX12_own 129 = .ok (.iload_n 3, 1) := by decide +kernel
theorem dX12_own_130 : decode cX12_own 130 = .ok (.iconst 2, 1) := by decide +kernel
theorem dX12_own_131 : decode cX12_own 131 = .ok (.iadd, 1) := by decide +kernel
theorem dX12_own_132 : decode cX12_own 132 = .ok (.iload 6, 2) := by decide +kernel
theorem dX12_own_134 : decode cX12_own 134 = .ok (.iastore, 1) := by decide +kernel
theorem dX12_own_135 : decode cX12_own 135 = .ok (.iload 7, 2) := by decide +kernel
theorem dX12_own_137 : decode cX12_own 137 = .ok (.ireturn, 1) := by decide +kernel
theorem dX12_own_138 : decode cX12_own 138 = .ok (.bipush (-12), 2) := by decide +kernel
theorem dX12_own_140 : decode cX12_own 140 = .ok (.istore 9, 2) := by decide +kernel
theorem dX12_own_142 : decode cX12_own 142 = .ok (.iload 9, 2) := by decide +kernel
theorem dX12_own_144 : decode cX12_own 144 = .ok (.bipush 12, 2) := by decide +kernel
theorem dX12_own_146 : decode cX12_own 146 = .ok (.if_icmp .gt 119, 3) := by decide +kernel
theorem dX12_own_149 : decode cX12_own 149 = .ok (.bipush (-12), 2) := by decide +kernel
theorem dX12_own_151 : decode cX12_own 151 = .ok (.istore 10, 2) := by decide +kernel
theorem dX12_own_153 : decode cX12_own 153 = .ok (.iload 10, 2) := by decide +kernel
theorem dX12_own_155 : decode cX12_own 155 = .ok (.bipush 12, 2) := by decide +kernel
theorem dX12_own_157 : decode cX12_own 157 = .ok (.if_icmp .gt 102, 3) := by decide +kernel
theorem dX12_own_160 : decode cX12_own 160 = .ok (.aload_n 0, 1) := by decide +kernel
theorem dX12_own_161 : decode cX12_own 161 = .ok (.getfield 40, 3) := by decide +kernel
theorem dX12_own_164 : decode cX12_own 164 = .ok (.iload_n 3, 1) := by decide +kernel
theorem dX12_own_165 : decode cX12_own 165 = .ok (.iload 9, 2) := by decide +kernel
theorem dX12_own_167 : decode cX12_own 167 = .ok (.iastore, 1) := by decide +kernel
theorem dX12_own_168 : decode cX12_own 168 = .ok (.aload_n 0, 1) := by decide +kernel
theorem dX12_own_169 : decode cX12_own 169 = .ok (.getfield 40, 3) := by decide +kernel
theorem dX12_own_172 : decode cX12_own 172 = .ok (.iload_n 3, 1) := by decide +kernel
theorem dX12_own_173 : decode cX12_own 173 = .ok (.iconst 1, 1) := by decide +kernel
theorem dX12_own_174 : decode cX12_own 174 = .ok (.iadd, 1) := by decide +kernel
theorem dX12_own_175 : decode cX12_own 175 = .ok (.iload 10, 2) := by decide +kernel
theorem dX12_own_177 : decode cX12_own 177 = .ok (.iastore, 1) := by decide +kernel
theorem dX12_own_178 : decode cX12_own 178 = .ok (.aload_n 0, 1) := by decide +kernel
theorem dX12_own_179 : decode cX12_own 179 = .ok (.iconst 4, 1) := by decide +kernel
theorem dX12_own_180 : decode cX12_own 180 = .ok (.iload_n 1, 1) := by decide +kernel
theorem dX12_own_181 : decode cX12_own 181 = .ok (.iconst 0, 1) := by decide +kernel
theorem dX12_own_182 : decode cX12_own 182 = .ok (.invokevirtual 424, 3) := by decide +kernel
theorem dX12_own_185 : decode cX12_own 185 = .ok (.iload 7, 2) := by decide +kernel
theorem dX12_own_187 : decode cX12_own 187 = .ok (.ldc_w 295, 3) := by decide +kernel
theorem dX12_own_190 : decode cX12_own 190 = .ok (.if_icmp .ne 7, 3) := by decide +kernel
theorem dX12_own_193 : decode cX12_own 193 = .ok (.iconst 1, 1) := by decide +kernel
theorem dX12_own_194 : decode cX12_own 194 = .ok (.goto 7, 3) := by decide +kernel
theorem dX12_own_197 : decode cX12_own 197 = .ok (.aload_n 0, 1) := by decide +kernel
theorem dX12_own_198 : decode cX12_own 198 = .ok (.invokevirtual 430, 3) := by decide +kernel
theorem dX12_own_201 : decode cX12_own 201 = .ok (.istore 11, 2) := by decide +kernel
theorem dX12_own_203 : decode cX12_own 203 = .ok (.iload 11, 2) := by decide +kernel
theorem dX12_own_205 : decode cX12_own 205 = .ok (.ifCond .lt 48, 3) := by decide +kernel
theorem dX12_own_208 : decode cX12_own 208 = .ok (.iload 11, 2) := by decide +kernel
theorem dX12_own_210 : decode cX12_own 210 = .ok (.ifCond .ne 31, 3) := by decide +kernel
theorem dX12_own_213 : decode cX12_own 213 = .ok (.iload 9, 2) := by decide +kernel
theorem dX12_own_215 : decode cX12_own 215 = .ok (.invokestatic 338, 3) := by decide +kernel
theorem dX12_own_218 : decode cX12_own 218 = .ok (.iload 10, 2) := by decide +kernel
theorem dX12_own_220 : decode cX12_own 220 = .ok (.invokestatic 338, 3) := by decide +kernel
theorem dX12_own_223 : decode cX12_own 223 = .ok (.iadd, 1) := by decide +kernel
theorem dX12_own_224 : decode cX12_own 224 = .ok (.iload 7, 2) := by decide +kernel
theorem dX12_own_226 : decode cX12_own 226 = .ok (.invokestatic 338, 3) := by decide +kernel
theorem dX12_own_229 : decode cX12_own 229 = .ok (.iload 8, 2) := by decide +kernel
theorem dX12_own_231 : decode cX12_own 231 = .ok (.invokestatic 338, 3) := by decide +kernel
theorem dX12_own_234 : decode cX12_own 234 = .ok (.iadd, 1) := by decide +kernel
theorem dX12_own_235 : decode cX12_own 235 = .ok (.if_icmp .lt 6, 3) := by decide +kernel
theorem dX12_own_238 : decode cX12_own 238 = .ok (.goto 15, 3) := by decide +kernel
theorem dX12_own_241 : decode cX12_own 241 = .ok (.aload_n 0, 1) := by decide +kernel
theorem dX12_own_242 : decode cX12_own 242 = .ok (.invokevirtual 427, 3) := by decide +kernel
theorem dX12_own_245 : decode cX12_own 245 = .ok (.iload 9, 2) := by decide +kernel
theorem dX12_own_247 : decode cX12_own 247 = .ok (.istore 7, 2) := by decide +kernel
theorem dX12_own_249 : decode cX12_own 249 = .ok (.iload 10, 2) := by decide +kernel
theorem dX12_own_251 : decode cX12_own 251 = .ok (.istore 8, 2) := by decide +kernel
theorem dX12_own_253 : decode cX12_own 253 = .ok (.iinc 10 1, 3) := by decide +kernel
theorem dX12_own_256 : decode cX12_own 256 = .ok (.goto (-103), 3) := by decide +kernel
theorem dX12_own_259 : decode cX12_own 259 = .ok (.iinc 9 1, 3) := by decide +kernel
theorem dX12_own_262 : decode cX12_own 262 = .ok (.goto (-120), 3) := by decide +kernel
theorem dX12_own_265 : decode cX12_own 265 = .ok (.aload_n 0, 1) := by decide +kernel
theorem dX12_own_266 : decode cX12_own 266 = .ok (.getfield 40, 3) := by decide +kernel
theorem dX12_own_269 : decode cX12_own 269 = .ok (.iload_n 3, 1) := by decide +kernel
theorem dX12_own_270 : decode cX12_own 270 = .ok (.iload 4, 2) := by decide +kernel
theorem dX12_own_272 : decode cX12_own 272 = .ok (.iastore, 1) := by decide +kernel
theorem dX12_own_273 : decode cX12_own 273 = .ok (.aload_n 0, 1) := by decide +kernel
theorem dX12_own_274 : decode cX12_own 274 = .ok (.getfield 40, 3) := by decide +kernel
theorem dX12_own_277 : decode cX12_own 277 = .ok (.iload_n 3, 1) := by decide +kernel
theorem dX12_own_278 : decode cX12_own 278 = .ok (.iconst 1, 1) := by decide +kernel
theorem dX12_own_279 : decode cX12_own 279 = .ok (.iadd, 1) := by decide +kernel
theorem dX12_own_280 : decode cX12_own 280 = .ok (.iload 5, 2) := by decide +kernel
theorem dX12_own_282 : decode cX12_own 282 = .ok (.iastore, 1) := by decide +kernel
theorem dX12_own_283 : decode cX12_own 283 = .ok (.iload_n 2, 1) := by decide +kernel
theorem dX12_own_284 : decode cX12_own 284 = .ok (.ifCond .ne 8, 3) := by decide +kernel
theorem dX12_own_287 : decode cX12_own 287 = .ok (.iload 7, 2) := by decide +kernel
theorem dX12_own_289 : decode cX12_own 289 = .ok (.goto 5, 3) := by decide +kernel
theorem dX12_own_292 : decode cX12_own 292 = .ok (.iload 8, 2) := by decide +kernel
theorem dX12_own_294 : decode cX12_own 294 = .ok (.ireturn, 1) := by decide +kernel
theorem dX12_isOf_0 : decode cX12_isOf 0 = .ok (.iload_n 2, 1) := by decide +kernel
theorem dX12_isOf_1 : decode cX12_isOf 1 = .ok (.iconst (-1), 1) := by decide +kernel
theorem dX12_isOf_2 : decode cX12_isOf 2 = .ok (.if_icmp .eq 27, 3) := by decide +kernel
theorem dX12_isOf_5 : decode cX12_isOf 5 = .ok (.aload_n 0, 1) := by decide +kernel
theorem dX12_isOf_6 : decode cX12_isOf 6 = .ok (.getfield 40, 3) := by decide +kernel
theorem dX12_isOf_9 : decode cX12_isOf 9 = .ok (.iconst 4, 1) := by decide +kernel
theorem dX12_isOf_10 : decode cX12_isOf 10 = .ok (.aload_n 0, 1) := by decide +kernel
theorem dX12_isOf_11 : decode cX12_isOf 11 = .ok (.getfield 43, 3) := by decide +kernel
theorem dX12_isOf_14 : decode cX12_isOf 14 = .ok (.iconst 5, 1) := by decide +kernel
theorem dX12_isOf_15 : decode cX12_isOf 15 = .ok (.iload_n 1, 1) := by decide +kernel
theorem dX12_isOf_16 : decode cX12_isOf 16 = .ok (.imul, 1) := by decide +kernel
theorem dX12_isOf_17 : decode cX12_isOf 17 = .ok (.iaload, 1) := by decide +kernel
theorem dX12_isOf_18 : decode cX12_isOf 18 = .ok (.bipush 100, 2) := by decide +kernel
theorem dX12_isOf_20 : decode cX12_isOf 20 = .ok (.idiv, 1) := by decide +kernel
theorem dX12_isOf_21 : decode cX12_isOf 21 = .ok (.imul, 1) := by decide +kernel
theorem dX12_isOf_22 : decode cX12_isOf 22 = .ok (.iconst 3, 1) := by decide +kernel
theorem dX12_isOf_23 : decode cX12_isOf 23 = .ok (.iadd, 1) := by decide +kernel
theorem dX12_isOf_24 : decode cX12_isOf 24 = .ok (.iaload, 1) := by decide +kernel
theorem dX12_isOf_25 : decode cX12_isOf 25 = .ok (.iload_n 2, 1) := by decide +kernel
theorem dX12_isOf_26 : decode cX12_isOf 26 = .ok (.if_icmp .ne 7, 3) := by decide +kernel
theorem dX12_isOf_29 : decode cX12_isOf 29 = .ok (.iconst 1, 1) := by decide +kernel
theorem dX12_isOf_30 : decode cX12_isOf 30 = .ok (.goto 4, 3) := by decide +kernel
theorem dX12_isOf_33 : decode cX12_isOf 33 = .ok (.iconst 0, 1) := by decide +kernel
theorem dX12_isOf_34 : decode cX12_isOf 34 = .ok (.ireturn, 1) := by decide +kernel
theorem dX12_share_0 : decode cX12_share 0 = .ok (.iload_n 1, 1) := by decide +kernel
theorem dX12_share_1 : decode cX12_share 1 = .ok (.iconst (-1), 1) := by decide +kernel
theorem dX12_share_2 : decode cX12_share 2 = .ok (.iconst 3, 1) := by decide +kernel
theorem dX12_share_3 : decode cX12_share 3 = .ok (.invokestatic 98, 3) := by decide +kernel
theorem dX12_share_6 : decode cX12_share 6 = .ok (.ifCond .eq 12, 3) := by decide +kernel
theorem dX12_share_9 : decode cX12_share 9 = .ok (.iload_n 2, 1) := by decide +kernel
theorem dX12_share_10 : decode cX12_share 10 = .ok (.iconst 0, 1) := by decide +kernel
theorem dX12_share_11 : decode cX12_share 11 = .ok (.iconst 4, 1) := by decide +kernel
theorem dX12_share_12 : decode cX12_share 12 = .ok (.invokestatic 98, 3) := by decide +kernel
theorem dX12_share_15 : decode cX12_share 15 = .ok (.ifCond .ne 5, 3) := by decide +kernel
theorem dX12_share_18 : decode cX12_share 18 = .ok (.iconst (-1), 1) := by decide +kernel
theorem dX12_share_19 : decode cX12_share 19 = .ok (.ireturn, 1) := by decide +kernel
theorem dX12_share_20 : decode cX12_share 20 = .ok (.iconst 0, 1) := by decide +kernel
theorem dX12_share_21 : decode cX12_share 21 = .ok (.istore_n 3, 1) := by decide +kernel
theorem dX12_share_22 : decode cX12_share 22 = .ok (.iconst 0, 1) := by decide +kernel
theorem dX12_share_23 : decode cX12_share 23 = .ok (.istore 4, 2) := by decide +kernel
theorem dX12_share_25 : decode cX12_share 25 = .ok (.iconst 0, 1) := by decide +kernel
theorem dX12_share_26 : decode cX12_share 26 = .ok (.istore 5, 2) := by decide +kernel
theorem dX12_share_28 : decode cX12_share 28 = .ok (.iload 5, 2) := by decide +kernel
theorem dX12_share_30 : decode cX12_share 30 = .ok (.aload_n 0, 1) := by decide +kernel
theorem dX12_share_31 : decode cX12_share 31 = .ok (.getfield 235, 3) := by decide +kernel
theorem dX12_share_34 : decode cX12_share 34 = .ok (.if_icmp .ge 83, 3) := by decide +kernel
theorem dX12_share_37 : decode cX12_share 37 = .ok (.aload_n 0, 1) := by decide +kernel
theorem dX12_share_38 : decode cX12_share 38 = .ok (.iload 5, 2) := by decide +kernel
theorem dX12_share_40 : decode cX12_share 40 = .ok (.iload_n 1, 1) := by decide +kernel
theorem dX12_share_41 : decode cX12_share 41 = .ok (.invokevirtual 433, 3) := by decide +kernel
theorem dX12_share_44 : decode cX12_share 44 = .ok (.ifCond .ne 6, 3) := by decide +kernel
theorem dX12_share_47 : decode cX12_share 47 = .ok (.goto 64, 3) := by decide +kernel
theorem dX12_share_50 : decode cX12_share 50 = .ok (.iinc 3 1, 3) := by decide +kernel
theorem dX12_share_53 : decode cX12_share 53 = .ok (.aload_n 0, 1) := by decide +kernel
theorem dX12_share_54 : decode cX12_share 54 = .ok (.iload 5, 2) := by decide +kernel
theorem dX12_share_56 : decode cX12_share 56 = .ok (.invokevirtual 403, 3) := by decide +kernel
theorem dX12_share_59 : decode cX12_share 59 = .ok (.iload 4, 2) := by decide +kernel
theorem dX12_share_61 : decode cX12_share 61 = .ok (.iload_n 2, 1) := by decide +kernel
theorem dX12_share_62 : decode cX12_share 62 = .ok (.iconst 4, 1) := by decide +kernel
theorem dX12_share_63 : decode cX12_share 63 = .ok (.if_icmp .ne 21, 3) := by decide +kernel
theorem dX12_share_66 : decode cX12_share 66 = .ok (.aload_n 0, 1) := by decide +kernel
theorem dX12_share_67 : decode cX12_share 67 = .ok (.getfield 43, 3) := by decide +kernel
theorem dX12_share_70 : decode cX12_share 70 = .ok (.iconst 5, 1) := by decide +kernel
theorem dX12_share_71 : decode cX12_share 71 = .ok (.iload 5, 2) := by decide +kernel
theorem dX12_share_73 : decode cX12_share 73 = .ok (.imul, 1) := by decide +kernel
theorem dX12_share_74 : decode cX12_share 74 = .ok (.iconst 4, 1) := by decide +kernel
theorem dX12_share_75 : decode cX12_share 75 = .ok (.iadd, 1) := by decide +kernel
theorem dX12_share_76 : decode cX12_share 76 = .ok (.iaload, 1) := by decide +kernel
theorem dX12_share_77 : decode cX12_share 77 = .ok (.iconst 1, 1) := by decide +kernel
theorem dX12_share_78 : decode cX12_share 78 = .ok (.if_icmp .ne 29, 3) := by decide +kernel
theorem dX12_share_81 : decode cX12_share 81 = .ok (.goto 22, 3) := by decide +kernel
theorem dX12_share_84 : decode cX12_share 84 = .ok (.aload_n 0, 1) := by decide +kernel
theorem dX12_share_85 : decode cX12_share 85 = .ok (.aload_n 0, 1) := by decide +kernel
theorem dX12_share_86 : decode cX12_share 86 = .ok (.getfield 43, 3) := by decide +kernel
theorem dX12_share_89 : decode cX12_share 89 = .ok (.iconst 5, 1) := by decide +kernel
theorem dX12_share_90 : decode cX12_share 90 = .ok (.iload 5, 2) := by decide +kernel
theorem dX12_share_92 : decode cX12_share 92 = .ok (.imul, 1) := by decide +kernel
theorem dX12_share_93 : decode cX12_share 93 = .ok (.iconst 3, 1) := by decide +kernel
theorem dX12_share_94 : decode cX12_share 94 = .ok (.iadd, 1) := by decide +kernel
theorem dX12_share_95 : decode cX12_share 95 = .ok (.iaload, 1) := by decide +kernel
theorem dX12_share_96 : decode cX12_share 96 = .ok (.invokevirtual 367, 3) := by decide +kernel
theorem dX12_share_99 : decode cX12_share 99 = .ok (.iload_n 2, 1) := by decide +kernel
theorem dX12_share_100 : decode cX12_share 100 = .ok (.if_icmp .ne 7, 3) := by decide +kernel
theorem dX12_share_103 : decode cX12_share 103 = .ok (.iconst 1, 1) := by decide +kernel
theorem dX12_share_104 : decode cX12_share 104 = .ok (.goto 4, 3) := by decide +kernel
theorem dX12_share_107 : decode cX12_share 107 = .ok (.iconst 0, 1) := by decide +kernel
theorem dX12_share_108 : decode cX12_share 108 = .ok (.iadd, 1) := by decide +kernel
theorem dX12_share_109 : decode cX12_share 109 = .ok (.istore 4, 2) := by decide +kernel
theorem dX12_share_111 : decode cX12_share 111 = .ok (.iinc 5 1, 3) := by decide +kernel
theorem dX12_share_114 : decode cX12_share 114 = .ok (.goto (-86), 3) := by decide +kernel
theorem dX12_share_117 : decode cX12_share 117 = .ok (.iload_n 3, 1) := by decide +kernel
theorem dX12_share_118 : decode cX12_share 118 = .ok (.ifCond .ne 7, 3) := by decide +kernel
theorem dX12_share_121 : decode cX12_share 121 = .ok (.iconst (-1), 1) := by decide +kernel
theorem dX12_share_122 : decode cX12_share 122 = .ok (.goto 11, 3) := by decide +kernel
theorem dX12_share_125 : decode cX12_share 125 = .ok (.sipush 1000, 3) := by decide +kernel
theorem dX12_share_128 : decode cX12_share 128 = .ok (.iload 4, 2) := by decide +kernel
theorem dX12_share_130 : decode cX12_share 130 = .ok (.imul, 1) := by decide +kernel
theorem dX12_share_131 : decode cX12_share 131 = .ok (.iload_n 3, 1) := by decide +kernel
theorem dX12_share_132 : decode cX12_share 132 = .ok (.idiv, 1) := by decide +kernel
theorem dX12_share_133 : decode cX12_share 133 = .ok (.ireturn, 1) := by decide +kernel
theorem dX12_foretold_0 : decode cX12_foretold 0 = .ok (.iload_n 1, 1) := by decide +kernel
theorem dX12_foretold_1 : decode cX12_foretold 1 = .ok (.invokestatic 370, 3) := by decide +kernel
theorem dX12_foretold_4 : decode cX12_foretold 4 = .ok (.ifCond .eq 21, 3) := by decide +kernel
theorem dX12_foretold_7 : decode cX12_foretold 7 = .ok (.iload_n 2, 1) := by decide +kernel
theorem dX12_foretold_8 : decode cX12_foretold 8 = .ok (.iconst (-1), 1) := by decide +kernel
theorem dX12_foretold_9 : decode cX12_foretold 9 = .ok (.iconst 3, 1) := by decide +kernel
theorem dX12_foretold_10 : decode cX12_foretold 10 = .ok (.invokestatic 98, 3) := by decide +kernel
theorem dX12_foretold_13 : decode cX12_foretold 13 = .ok (.ifCond .eq 12, 3) := by decide +kernel
theorem dX12_foretold_16 : decode cX12_foretold 16 = .ok (.iload_n 3, 1) := by decide +kernel
theorem dX12_foretold_17 : decode cX12_foretold 17 = .ok (.iconst 0, 1) := by decide +kernel
theorem dX12_foretold_18 : decode cX12_foretold 18 = .ok (.iconst 4, 1) := by decide +kernel
theorem dX12_foretold_19 : decode cX12_foretold 19 = .ok (.invokestatic 98, 3) := by decide +kernel
theorem dX12_foretold_22 : decode cX12_foretold 22 = .ok (.ifCond .ne 5, 3) := by decide +kernel
theorem dX12_foretold_25 : decode cX12_foretold 25 = .ok (.iconst (-1), 1) := by decide +kernel
theorem dX12_foretold_26 : decode cX12_foretold 26 = .ok (.ireturn, 1) := by decide +kernel
theorem dX12_foretold_27 : decode cX12_foretold 27 = .ok (.iconst 0, 1) := by decide +kernel
theorem dX12_foretold_28 : decode cX12_foretold 28 = .ok (.istore 4, 2) := by decide +kernel
theorem dX12_foretold_30 : decode cX12_foretold 30 = .ok (.iconst 0, 1) := by decide +kernel
theorem dX12_foretold_31 : decode cX12_foretold 31 = .ok (.istore 5, 2) := by decide +kernel
theorem dX12_foretold_33 : decode cX12_foretold 33 = .ok (.iconst 0, 1) := by decide +kernel
theorem dX12_foretold_34 : decode cX12_foretold 34 = .ok (.istore 6, 2) := by decide +kernel
theorem dX12_foretold_36 : decode cX12_foretold 36 = .ok (.iload 6, 2) := by decide +kernel
theorem dX12_foretold_38 : decode cX12_foretold 38 = .ok (.aload_n 0, 1) := by decide +kernel
theorem dX12_foretold_39 : decode cX12_foretold 39 = .ok (.getfield 235, 3) := by decide +kernel
theorem dX12_foretold_42 : decode cX12_foretold 42 = .ok (.if_icmp .ge 58, 3) := by decide +kernel
theorem dX12_foretold_45 : decode cX12_foretold 45 = .ok (.aload_n 0, 1) := by decide +kernel
theorem dX12_foretold_46 : decode cX12_foretold 46 = .ok (.iload 6, 2) := by decide +kernel
theorem dX12_foretold_48 : decode cX12_foretold 48 = .ok (.iload_n 2, 1) := by decide +kernel
theorem dX12_foretold_49 : decode cX12_foretold 49 = .ok (.invokevirtual 433, 3) := by decide +kernel
theorem dX12_foretold_52 : decode cX12_foretold 52 = .ok (.ifCond .ne 6, 3) := by decide +kernel
theorem dX12_foretold_55 : decode cX12_foretold 55 = .ok (.goto 39, 3) := by decide +kernel
theorem dX12_foretold_58 : decode cX12_foretold 58 = .ok (.iinc 4 1, 3) := by decide +kernel
theorem dX12_foretold_61 : decode cX12_foretold 61 = .ok (.aload_n 0, 1) := by decide +kernel
theorem dX12_foretold_62 : decode cX12_foretold 62 = .ok (.iload 6, 2) := by decide +kernel
theorem dX12_foretold_64 : decode cX12_foretold 64 = .ok (.invokevirtual 403, 3) := by decide +kernel
theorem dX12_foretold_67 : decode cX12_foretold 67 = .ok (.aload_n 0, 1) := by decide +kernel
theorem dX12_foretold_68 : decode cX12_foretold 68 = .ok (.iload_n 1, 1) := by decide +kernel
theorem dX12_foretold_69 : decode cX12_foretold 69 = .ok (.invokevirtual 380, 3) := by decide +kernel
theorem dX12_foretold_72 : decode cX12_foretold 72 = .ok (.iload 5, 2) := by decide +kernel
theorem dX12_foretold_74 : decode cX12_foretold 74 = .ok (.iload_n 3, 1) := by decide +kernel
theorem dX12_foretold_75 : decode cX12_foretold 75 = .ok (.iconst 4, 1) := by decide +kernel
theorem dX12_foretold_76 : decode cX12_foretold 76 = .ok (.if_icmp .ne 10, 3) := by decide +kernel
theorem dX12_foretold_79 : decode cX12_foretold 79 = .ok (.aload_n 0, 1) := by decide +kernel
theorem dX12_foretold_80 : decode cX12_foretold 80 = .ok (.invokevirtual 396, 3) := by decide +kernel
theorem dX12_foretold_83 : decode cX12_foretold 83 = .ok (.goto 8, 3) := by decide +kernel
theorem dX12_foretold_86 : decode cX12_foretold 86 = .ok (.aload_n 0, 1) := by decide +kernel
theorem dX12_foretold_87 : decode cX12_foretold 87 = .ok (.iload_n 3, 1) := by decide +kernel
theorem dX12_foretold_88 : decode cX12_foretold 88 = .ok (.invokevirtual 390, 3) := by decide +kernel
theorem dX12_foretold_91 : decode cX12_foretold 91 = .ok (.iadd, 1) := by decide +kernel
theorem dX12_foretold_92 : decode cX12_foretold 92 = .ok (.istore 5, 2) := by decide +kernel
theorem dX12_foretold_94 : decode cX12_foretold 94 = .ok (.iinc 6 1, 3) := by decide +kernel
theorem dX12_foretold_97 : decode cX12_foretold 97 = .ok (.goto (-61), 3) := by decide +kernel
theorem dX12_foretold_100 : decode cX12_foretold 100 = .ok (.iload 4, 2) := by decide +kernel
theorem dX12_foretold_102 : decode cX12_foretold 102 = .ok (.ifCond .ne 7, 3) := by decide +kernel
theorem dX12_foretold_105 : decode cX12_foretold 105 = .ok (.iconst (-1), 1) := by decide +kernel
theorem dX12_foretold_106 : decode cX12_foretold 106 = .ok (.goto 8, 3) := by decide +kernel
theorem dX12_foretold_109 : decode cX12_foretold 109 = .ok (.iload 5, 2) := by decide +kernel
theorem dX12_foretold_111 : decode cX12_foretold 111 = .ok (.iload 4, 2) := by decide +kernel
theorem dX12_foretold_113 : decode cX12_foretold 113 = .ok (.idiv, 1) := by decide +kernel
theorem dX12_foretold_114 : decode cX12_foretold 114 = .ok (.ireturn, 1) := by decide +kernel
theorem dX12_pairs_0 : decode cX12_pairs 0 = .ok (.iload_n 1, 1) := by decide +kernel
theorem dX12_pairs_1 : decode cX12_pairs 1 = .ok (.ifCond .lt 43, 3) := by decide +kernel
theorem dX12_pairs_4 : decode cX12_pairs 4 = .ok (.iload_n 1, 1) := by decide +kernel
theorem dX12_pairs_5 : decode cX12_pairs 5 = .ok (.bipush 10, 2) := by decide +kernel
theorem dX12_pairs_7 : decode cX12_pairs 7 = .ok (.idiv, 1) := by decide +kernel
theorem dX12_pairs_8 : decode cX12_pairs 8 = .ok (.iconst 3, 1) := by decide +kernel
theorem dX12_pairs_9 : decode cX12_pairs 9 = .ok (.if_icmp .gt 35, 3) := by decide +kernel
theorem dX12_pairs_12 : decode cX12_pairs 12 = .ok (.iload_n 1, 1) := by decide +kernel
theorem dX12_pairs_13 : decode cX12_pairs 13 = .ok (.bipush 10, 2) := by decide +kernel
theorem dX12_pairs_15 : decode cX12_pairs 15 = .ok (.irem, 1) := by decide +kernel
theorem dX12_pairs_16 : decode cX12_pairs 16 = .ok (.invokestatic 370, 3) := by decide +kernel
theorem dX12_pairs_19 : decode cX12_pairs 19 = .ok (.ifCond .eq 25, 3) := by decide +kernel
theorem dX12_pairs_22 : decode cX12_pairs 22 = .ok (.aload_n 0, 1) := by decide +kernel
theorem dX12_pairs_23 : decode cX12_pairs 23 = .ok (.iload_n 2, 1) := by decide +kernel
theorem dX12_pairs_24 : decode cX12_pairs 24 = .ok (.invokevirtual 302, 3) := by decide +kernel
theorem dX12_pairs_27 : decode cX12_pairs 27 = .ok (.ifCond .eq 17, 3) := by decide +kernel
theorem dX12_pairs_30 : decode cX12_pairs 30 = .ok (.aload_n 0, 1) := by decide +kernel
theorem dX12_pairs_31 : decode cX12_pairs 31 = .ok (.bipush 100, 2) := by decide +kernel
theorem dX12_pairs_33 : decode cX12_pairs 33 = .ok (.iload_n 2, 1) := by decide +kernel
theorem dX12_pairs_34 : decode cX12_pairs 34 = .ok (.imul, 1) := by decide +kernel
theorem dX12_pairs_35 : decode cX12_pairs 35 = .ok (.iload_n 3, 1) := by decide +kernel
theorem dX12_pairs_36 : decode cX12_pairs 36 = .ok (.iload 4, 2) := by decide +kernel
theorem dX12_pairs_38 : decode cX12_pairs 38 = .ok (.invokevirtual 373, 3) := by decide +kernel
theorem dX12_pairs_41 : decode cX12_pairs 41 = .ok (.ifCond .ne 5, 3) := by decide +kernel
theorem dX12_pairs_44 : decode cX12_pairs 44 = .ok (.iconst (-1), 1) := by decide +kernel
theorem dX12_pairs_45 : decode cX12_pairs 45 = .ok (.ireturn, 1) := by decide +kernel
theorem dX12_pairs_46 : decode cX12_pairs 46 = .ok (.iconst 0, 1) := by decide +kernel
theorem dX12_pairs_47 : decode cX12_pairs 47 = .ok (.istore 6, 2) := by decide +kernel
theorem dX12_pairs_49 : decode cX12_pairs 49 = .ok (.iconst 0, 1) := by decide +kernel
theorem dX12_pairs_50 : decode cX12_pairs 50 = .ok (.istore 7, 2) := by decide +kernel
theorem dX12_pairs_52 : decode cX12_pairs 52 = .ok (.iload 7, 2) := by decide +kernel
theorem dX12_pairs_54 : decode cX12_pairs 54 = .ok (.aload_n 0, 1) := by decide +kernel
theorem dX12_pairs_55 : decode cX12_pairs 55 = .ok (.getfield 220, 3) := by decide +kernel
theorem dX12_pairs_58 : decode cX12_pairs 58 = .ok (.if_icmp .ge 102, 3) := by decide +kernel
theorem dX12_pairs_61 : decode cX12_pairs 61 = .ok (.iconst 0, 1) := by decide +kernel
theorem dX12_pairs_62 : decode cX12_pairs 62 = .ok (.istore 8, 2) := by decide +kernel
theorem dX12_pairs_64 : decode cX12_pairs 64 = .ok (.iload 8, 2) := by decide +kernel
theorem dX12_pairs_66 : decode cX12_pairs 66 = .ok (.aload_n 0, 1) := by decide +kernel
theorem dX12_pairs_67 : decode cX12_pairs 67 = .ok (.getfield 220, 3) := by decide +kernel
theorem dX12_pairs_70 : decode cX12_pairs 70 = .ok (.if_icmp .ge 84, 3) := by decide +kernel
theorem dX12_pairs_73 : decode cX12_pairs 73 = .ok (.iload 7, 2) := by decide +kernel
theorem dX12_pairs_75 : decode cX12_pairs 75 = .ok (.iload 8, 2) := by decide +kernel
theorem dX12_pairs_77 : decode cX12_pairs 77 = .ok (.if_icmp .ne 6, 3) := by decide +kernel
theorem dX12_pairs_80 : decode cX12_pairs 80 = .ok (.goto 68, 3) := by decide +kernel
theorem dX12_pairs_83 : decode cX12_pairs 83 = .ok (.aload_n 0, 1) := by decide +kernel
theorem dX12_pairs_84 : decode cX12_pairs 84 = .ok (.bipush 100, 2) := by decide +kernel
theorem dX12_pairs_86 : decode cX12_pairs 86 = .ok (.iload_n 2, 1) := by decide +kernel
theorem dX12_pairs_87 : decode cX12_pairs 87 = .ok (.imul, 1) := by decide +kernel
theorem dX12_pairs_88 : decode cX12_pairs 88 = .ok (.bipush 10, 2) := by decide +kernel
theorem dX12_pairs_90 : decode cX12_pairs 90 = .ok (.iload 7, 2) := by decide +kernel
theorem dX12_pairs_92 : decode cX12_pairs 92 = .ok (.imul, 1) := by decide +kernel
theorem dX12_pairs_93 : decode cX12_pairs 93 = .ok (.iadd, 1) := by decide +kernel
theorem dX12_pairs_94 : decode cX12_pairs 94 = .ok (.iload 8, 2) := by decide +kernel
theorem dX12_pairs_96 : decode cX12_pairs 96 = .ok (.iadd, 1) := by decide +kernel
theorem dX12_pairs_97 : decode cX12_pairs 97 = .ok (.iload_n 3, 1) := by decide +kernel
theorem dX12_pairs_98 : decode cX12_pairs 98 = .ok (.iload 4, 2) := by decide +kernel
theorem dX12_pairs_100 : decode cX12_pairs 100 = .ok (.invokevirtual 376, 3) := by decide +kernel
theorem dX12_pairs_103 : decode cX12_pairs 103 = .ok (.aload_n 0, 1) := by decide +kernel
theorem dX12_pairs_104 : decode cX12_pairs 104 = .ok (.iload_n 1, 1) := by decide +kernel
theorem dX12_pairs_105 : decode cX12_pairs 105 = .ok (.bipush 10, 2) := by decide +kernel
theorem dX12_pairs_107 : decode cX12_pairs 107 = .ok (.irem, 1) := by decide +kernel
theorem dX12_pairs_108 : decode cX12_pairs 108 = .ok (.invokevirtual 380, 3) := by decide +kernel
theorem dX12_pairs_111 : decode cX12_pairs 111 = .ok (.aload_n 0, 1) := by decide +kernel
theorem dX12_pairs_112 : decode cX12_pairs 112 = .ok (.aload_n 0, 1) := by decide +kernel
theorem dX12_pairs_113 : decode cX12_pairs 113 = .ok (.invokevirtual 393, 3) := by decide +kernel
theorem dX12_pairs_116 : decode cX12_pairs 116 = .ok (.invokevirtual 367, 3) := by decide +kernel
theorem dX12_pairs_119 : decode cX12_pairs 119 = .ok (.iload_n 1, 1) := by decide +kernel
theorem dX12_pairs_120 : decode cX12_pairs 120 = .ok (.bipush 10, 2) := by decide +kernel
theorem dX12_pairs_122 : decode cX12_pairs 122 = .ok (.idiv, 1) := by decide +kernel
theorem dX12_pairs_123 : decode cX12_pairs 123 = .ok (.if_icmp .eq 6, 3) := by decide +kernel
theorem dX12_pairs_126 : decode cX12_pairs 126 = .ok (.goto 22, 3) := by decide +kernel
theorem dX12_pairs_129 : decode cX12_pairs 129 = .ok (.iload 6, 2) := by decide +kernel
theorem dX12_pairs_131 : decode cX12_pairs 131 = .ok (.iload 5, 2) := by decide +kernel
theorem dX12_pairs_133 : decode cX12_pairs 133 = .ok (.if_icmp .ne 12, 3) := by decide +kernel
theorem dX12_pairs_136 : decode cX12_pairs 136 = .ok (.bipush 10, 2) := by decide +kernel
theorem dX12_pairs_138 : decode cX12_pairs 138 = .ok (.iload 7, 2) := by decide +kernel
theorem dX12_pairs_140 : decode cX12_pairs 140 = .ok (.imul, 1) := by decide +kernel
theorem dX12_pairs_141 : decode cX12_pairs 141 = .ok (.iload 8, 2) := by decide +kernel
theorem dX12_pairs_143 : decode cX12_pairs 143 = .ok (.iadd, 1) := by decide +kernel
theorem dX12_pairs_144 : decode cX12_pairs 144 = .ok (.ireturn, 1) := by decide +kernel
theorem dX12_pairs_145 : decode cX12_pairs 145 = .ok (.iinc 6 1, 3) := by decide +kernel
theorem dX12_pairs_148 : decode cX12_pairs 148 = .ok (.iinc 8 1, 3) := by decide +kernel
theorem dX12_pairs_151 : decode cX12_pairs 151 = .ok (.goto (-87), 3) := by decide +kernel
theorem dX12_pairs_154 : decode cX12_pairs 154 = .ok (.iinc 7 1, 3) := by decide +kernel
theorem dX12_pairs_157 : decode cX12_pairs 157 = .ok (.goto (-105), 3) := by decide +kernel
theorem dX12_pairs_160 : decode cX12_pairs 160 = .ok (.iload 5, 2) := by decide +kernel
theorem dX12_pairs_162 : decode cX12_pairs 162 = .ok (.iconst (-1), 1) := by decide +kernel
theorem dX12_pairs_163 : decode cX12_pairs 163 = .ok (.if_icmp .ne 8, 3) := by decide +kernel
theorem dX12_pairs_166 : decode cX12_pairs 166 = .ok (.iload 6, 2) := by decide +kernel
theorem dX12_pairs_168 : decode cX12_pairs 168 = .ok (.goto 4, 3) := by decide +kernel
theorem dX12_pairs_171 : decode cX12_pairs 171 = .ok (.iconst (-1), 1) := by decide +kernel
theorem dX12_pairs_172 : decode cX12_pairs 172 = .ok (.ireturn, 1) := by decide +kernel
theorem dX12_third_0 : decode cX12_third 0 = .ok (.aload_n 0, 1) := by decide +kernel
theorem dX12_third_1 : decode cX12_third 1 = .ok (.iload_n 1, 1) := by decide +kernel
theorem dX12_third_2 : decode cX12_third 2 = .ok (.iload_n 2, 1) := by decide +kernel
theorem dX12_third_3 : decode cX12_third 3 = .ok (.iload_n 3, 1) := by decide +kernel
theorem dX12_third_4 : decode cX12_third 4 = .ok (.invokevirtual 376, 3) := by decide +kernel
theorem dX12_third_7 : decode cX12_third 7 = .ok (.aload_n 0, 1) := by decide +kernel
theorem dX12_third_8 : decode cX12_third 8 = .ok (.iconst 4, 1) := by decide +kernel
theorem dX12_third_9 : decode cX12_third 9 = .ok (.invokevirtual 380, 3) := by decide +kernel
theorem dX12_third_12 : decode cX12_third 12 = .ok (.aload_n 0, 1) := by decide +kernel
theorem dX12_third_13 : decode cX12_third 13 = .ok (.iconst 3, 1) := by decide +kernel
theorem dX12_third_14 : decode cX12_third 14 = .ok (.invokevirtual 390, 3) := by decide +kernel
theorem dX12_third_17 : decode cX12_third 17 = .ok (.ireturn, 1) := by decide +kernel
theorem dX12_hump_0 : decode cX12_hump 0 = .ok (.aload_n 0, 1) := by decide +kernel
theorem dX12_hump_1 : decode cX12_hump 1 = .ok (.iload_n 1, 1) := by decide +kernel
theorem dX12_hump_2 : decode cX12_hump 2 = .ok (.iload_n 2, 1) := by decide +kernel
theorem dX12_hump_3 : decode cX12_hump 3 = .ok (.iconst 0, 1) := by decide +kernel
theorem dX12_hump_4 : decode cX12_hump 4 = .ok (.invokevirtual 373, 3) := by decide +kernel
theorem dX12_hump_7 : decode cX12_hump 7 = .ok (.ifCond .eq 12, 3) := by decide +kernel
theorem dX12_hump_10 : decode cX12_hump 10 = .ok (.iload_n 3, 1) := by decide +kernel
theorem dX12_hump_11 : decode cX12_hump 11 = .ok (.iconst 0, 1) := by decide +kernel
theorem dX12_hump_12 : decode cX12_hump 12 = .ok (.iconst 1, 1) := by decide +kernel
theorem dX12_hump_13 : decode cX12_hump 13 = .ok (.invokestatic 98, 3) := by decide +kernel
theorem dX12_hump_16 : decode cX12_hump 16 = .ok (.ifCond .ne 5, 3) := by decide +kernel
theorem dX12_hump_19 : decode cX12_hump 19 = .ok (.iconst (-1), 1) := by decide +kernel
theorem dX12_hump_20 : decode cX12_hump 20 = .ok (.ireturn, 1) := by decide +kernel
theorem dX12_hump_21 : decode cX12_hump 21 = .ok (.aload_n 0, 1) := by decide +kernel
theorem dX12_hump_22 : decode cX12_hump 22 = .ok (.iload_n 1, 1) := by decide +kernel
theorem dX12_hump_23 : decode cX12_hump 23 = .ok (.iload_n 2, 1) := by decide +kernel
theorem dX12_hump_24 : decode cX12_hump 24 = .ok (.iconst 0, 1) := by decide +kernel
theorem dX12_hump_25 : decode cX12_hump 25 = .ok (.invokevirtual 436, 3) := by decide +kernel
theorem dX12_hump_28 : decode cX12_hump 28 = .ok (.istore 4, 2) := by decide +kernel
theorem dX12_hump_30 : decode cX12_hump 30 = .ok (.iload 4, 2) := by decide +kernel
theorem dX12_hump_32 : decode cX12_hump 32 = .ok (.ifCond .ne 5, 3) := by decide +kernel
theorem dX12_hump_35 : decode cX12_hump 35 = .ok (.iconst (-1), 1) := by decide +kernel
theorem dX12_hump_36 : decode cX12_hump 36 = .ok (.ireturn, 1) := by decide +kernel
theorem dX12_hump_37 : decode cX12_hump 37 = .ok (.iconst 0, 1) := by decide +kernel
theorem dX12_hump_38 : decode cX12_hump 38 = .ok (.istore 5, 2) := by decide +kernel
theorem dX12_hump_40 : decode cX12_hump 40 = .ok (.iload 5, 2) := by decide +kernel
theorem dX12_hump_42 : decode cX12_hump 42 = .ok (.bipush 99, 2) := by decide +kernel
theorem dX12_hump_44 : decode cX12_hump 44 = .ok (.if_icmp .ge 38, 3) := by decide +kernel
theorem dX12_hump_47 : decode cX12_hump 47 = .ok (.iconst 2, 1) := by decide +kernel
theorem dX12_hump_48 : decode cX12_hump 48 = .ok (.aload_n 0, 1) := by decide +kernel
theorem dX12_hump_49 : decode cX12_hump 49 = .ok (.iload_n 1, 1) := by decide +kernel
theorem dX12_hump_50 : decode cX12_hump 50 = .ok (.iload_n 2, 1) := by decide +kernel
theorem dX12_hump_51 : decode cX12_hump 51 = .ok (.iload_n 3, 1) := by decide +kernel
theorem dX12_hump_52 : decode cX12_hump 52 = .ok (.ifCond .ne 10, 3) := by decide +kernel
theorem dX12_hump_55 : decode cX12_hump 55 = .ok (.iload 5, 2) := by decide +kernel
theorem dX12_hump_57 : decode cX12_hump 57 = .ok (.iconst 1, 1) := by decide +kernel
theorem dX12_hump_58 : decode cX12_hump 58 = .ok (.iadd, 1) := by decide +kernel
theorem dX12_hump_59 : decode cX12_hump 59 = .ok (.goto 8, 3) := by decide +kernel
theorem dX12_hump_62 : decode cX12_hump 62 = .ok (.iload 5, 2) := by decide +kernel
theorem dX12_hump_64 : decode cX12_hump 64 = .ok (.ineg, 1) := by decide +kernel
theorem dX12_hump_65 : decode cX12_hump 65 = .ok (.iconst 1, 1) := by decide +kernel
theorem dX12_hump_66 : decode cX12_hump 66 = .ok (.isub, 1) := by decide +kernel
theorem dX12_hump_67 : decode cX12_hump 67 = .ok (.invokevirtual 436, 3) := by decide +kernel
theorem dX12_hump_70 : decode cX12_hump 70 = .ok (.imul, 1) := by decide +kernel
theorem dX12_hump_71 : decode cX12_hump 71 = .ok (.iload 4, 2) := by decide +kernel
theorem dX12_hump_73 : decode cX12_hump 73 = .ok (.if_icmp .lt 9, 3) := by decide +kernel
theorem dX12_hump_76 : decode cX12_hump 76 = .ok (.iinc 5 1, 3) := by decide +kernel
theorem dX12_hump_79 : decode cX12_hump 79 = .ok (.goto (-39), 3) := by decide +kernel
theorem dX12_hump_82 : decode cX12_hump 82 = .ok (.iload 5, 2) := by decide +kernel
theorem dX12_hump_84 : decode cX12_hump 84 = .ok (.ireturn, 1) := by decide +kernel
theorem dX12_rightOf_0 : decode cX12_rightOf 0 = .ok (.iconst 0, 1) := by decide +kernel
theorem dX12_rightOf_1 : decode cX12_rightOf 1 = .ok (.istore 4, 2) := by decide +kernel
theorem dX12_rightOf_3 : decode cX12_rightOf 3 = .ok (.iconst 0, 1) := by decide +kernel
theorem dX12_rightOf_4 : decode cX12_rightOf 4 = .ok (.istore 5, 2) := by decide +kernel
theorem dX12_rightOf_6 : decode cX12_rightOf 6 = .ok (.iload 5, 2) := by decide +kernel
theorem dX12_rightOf_8 : decode cX12_rightOf 8 = .ok (.aload_n 0, 1) := by decide +kernel
theorem dX12_rightOf_9 : decode cX12_rightOf 9 = .ok (.getfield 220, 3) := by decide +kernel
theorem dX12_rightOf_12 : decode cX12_rightOf 12 = .ok (.if_icmp .ge 41, 3) := by decide +kernel
theorem dX12_rightOf_15 : decode cX12_rightOf 15 = .ok (.aload_n 0, 1) := by decide +kernel
theorem dX12_rightOf_16 : decode cX12_rightOf 16 = .ok (.bipush 100, 2) := by decide +kernel
theorem dX12_rightOf_18 : decode cX12_rightOf 18 = .ok (.iload_n 2, 1) := by decide +kernel
theorem dX12_rightOf_19 : decode cX12_rightOf 19 = .ok (.imul, 1) := by decide +kernel
theorem dX12_rightOf_20 : decode cX12_rightOf 20 = .ok (.bipush 11, 2) := by decide +kernel
theorem dX12_rightOf_22 : decode cX12_rightOf 22 = .ok (.iload 5, 2) := by decide +kernel
theorem dX12_rightOf_24 : decode cX12_rightOf 24 = .ok (.imul, 1) := by decide +kernel
theorem dX12_rightOf_25 : decode cX12_rightOf 25 = .ok (.iadd, 1) := by decide +kernel
theorem dX12_rightOf_26 : decode cX12_rightOf 26 = .ok (.iload_n 3, 1) := by decide +kernel
theorem dX12_rightOf_27 : decode cX12_rightOf 27 = .ok (.iconst 0, 1) := by decide +kernel
theorem dX12_rightOf_28 : decode cX12_rightOf 28 = .ok (.invokevirtual 376, 3) := by decide +kernel
theorem dX12_rightOf_31 : decode cX12_rightOf 31 = .ok (.aload_n 0, 1) := by decide +kernel
theorem dX12_rightOf_32 : decode cX12_rightOf 32 = .ok (.iload_n 1, 1) := by decide +kernel
theorem dX12_rightOf_33 : decode cX12_rightOf 33 = .ok (.invokevirtual 380, 3) := by decide +kernel
theorem dX12_rightOf_36 : decode cX12_rightOf 36 = .ok (.iload 4, 2) := by decide +kernel
theorem dX12_rightOf_38 : decode cX12_rightOf 38 = .ok (.aload_n 0, 1) := by decide +kernel
theorem dX12_rightOf_39 : decode cX12_rightOf 39 = .ok (.iload 5, 2) := by decide +kernel
theorem dX12_rightOf_41 : decode cX12_rightOf 41 = .ok (.invokevirtual 387, 3) := by decide +kernel
theorem dX12_rightOf_44 : decode cX12_rightOf 44 = .ok (.iadd, 1) := by decide +kernel
theorem dX12_rightOf_45 : decode cX12_rightOf 45 = .ok (.istore 4, 2) := by decide +kernel
theorem dX12_rightOf_47 : decode cX12_rightOf 47 = .ok (.iinc 5 1, 3) := by decide +kernel
theorem dX12_rightOf_50 : decode cX12_rightOf 50 = .ok (.goto (-44), 3) := by decide +kernel
theorem dX12_rightOf_53 : decode cX12_rightOf 53 = .ok (.iload 4, 2) := by decide +kernel
theorem dX12_rightOf_55 : decode cX12_rightOf 55 = .ok (.ireturn, 1) := by decide +kernel
theorem dX12_canBe_0 : decode cX12_canBe 0 = .ok (.iload_n 1, 1) := by decide +kernel
theorem dX12_canBe_1 : decode cX12_canBe 1 = .ok (.invokestatic 370, 3) := by decide +kernel
theorem dX12_canBe_4 : decode cX12_canBe 4 = .ok (.ifCond .eq 25, 3) := by decide +kernel
theorem dX12_canBe_7 : decode cX12_canBe 7 = .ok (.aload_n 0, 1) := by decide +kernel
theorem dX12_canBe_8 : decode cX12_canBe 8 = .ok (.iload_n 2, 1) := by decide +kernel
theorem dX12_canBe_9 : decode cX12_canBe 9 = .ok (.invokevirtual 302, 3) := by decide +kernel
theorem dX12_canBe_12 : decode cX12_canBe 12 = .ok (.ifCond .eq 17, 3) := by decide +kernel
theorem dX12_canBe_15 : decode cX12_canBe 15 = .ok (.iload_n 3, 1) := by decide +kernel
theorem dX12_canBe_16 : decode cX12_canBe 16 = .ok (.iconst 0, 1) := by decide +kernel
theorem dX12_canBe_17 : decode cX12_canBe 17 = .ok (.bipush 99, 2) := by decide +kernel
theorem dX12_canBe_19 : decode cX12_canBe 19 = .ok (.invokestatic 98, 3) := by decide +kernel
theorem dX12_canBe_22 : decode cX12_canBe 22 = .ok (.ifCond .eq 7, 3) := by decide +kernel
theorem dX12_canBe_25 : decode cX12_canBe 25 = .ok (.iconst 1, 1) := by decide +kernel
theorem dX12_canBe_26 : decode cX12_canBe 26 = .ok (.goto 4, 3) := by decide +kernel
theorem dX12_canBe_29 : decode cX12_canBe 29 = .ok (.iconst 0, 1) := by decide +kernel
theorem dX12_canBe_30 : decode cX12_canBe 30 = .ok (.ireturn, 1) := by decide +kernel
theorem dX12_right_0 : decode cX12_right 0 = .ok (.aload_n 0, 1) := by decide +kernel
theorem dX12_right_1 : decode cX12_right 1 = .ok (.iload_n 1, 1) := by decide +kernel
theorem dX12_right_2 : decode cX12_right 2 = .ok (.iload_n 2, 1) := by decide +kernel
theorem dX12_right_3 : decode cX12_right 3 = .ok (.iload_n 3, 1) := by decide +kernel
theorem dX12_right_4 : decode cX12_right 4 = .ok (.invokevirtual 439, 3) := by decide +kernel
theorem dX12_right_7 : decode cX12_right 7 = .ok (.ifCond .eq 13, 3) := by decide +kernel
theorem dX12_right_10 : decode cX12_right 10 = .ok (.aload_n 0, 1) := by decide +kernel
theorem dX12_right_11 : decode cX12_right 11 = .ok (.iload_n 1, 1) := by decide +kernel
theorem dX12_right_12 : decode cX12_right 12 = .ok (.iload_n 2, 1) := by decide +kernel
theorem dX12_right_13 : decode cX12_right 13 = .ok (.iload_n 3, 1) := by decide +kernel
theorem dX12_right_14 : decode cX12_right 14 = .ok (.invokevirtual 442, 3) := by decide +kernel
theorem dX12_right_17 : decode cX12_right 17 = .ok (.goto 4, 3) := by decide +kernel
theorem dX12_right_20 : decode cX12_right 20 = .ok (.iconst (-1), 1) := by decide +kernel
theorem dX12_right_21 : decode cX12_right 21 = .ok (.ireturn, 1) := by decide +kernel
theorem dX12_worth_0 : decode cX12_worth 0 = .ok (.aload_n 0, 1) := by decide +kernel
theorem dX12_worth_1 : decode cX12_worth 1 = .ok (.iload_n 1, 1) := by decide +kernel
theorem dX12_worth_2 : decode cX12_worth 2 = .ok (.iload_n 2, 1) := by decide +kernel
theorem dX12_worth_3 : decode cX12_worth 3 = .ok (.iload_n 3, 1) := by decide +kernel
theorem dX12_worth_4 : decode cX12_worth 4 = .ok (.invokevirtual 439, 3) := by decide +kernel
theorem dX12_worth_7 : decode cX12_worth 7 = .ok (.ifCond .ne 5, 3) := by decide +kernel
theorem dX12_worth_10 : decode cX12_worth 10 = .ok (.iconst (-1), 1) := by decide +kernel
theorem dX12_worth_11 : decode cX12_worth 11 = .ok (.ireturn, 1) := by decide +kernel
theorem dX12_worth_12 : decode cX12_worth 12 = .ok (.aload_n 0, 1) := by decide +kernel
theorem dX12_worth_13 : decode cX12_worth 13 = .ok (.iload_n 1, 1) := by decide +kernel
theorem dX12_worth_14 : decode cX12_worth 14 = .ok (.iload_n 2, 1) := by decide +kernel
theorem dX12_worth_15 : decode cX12_worth 15 = .ok (.iload_n 3, 1) := by decide +kernel
theorem dX12_worth_16 : decode cX12_worth 16 = .ok (.invokevirtual 442, 3) := by decide +kernel
theorem dX12_worth_19 : decode cX12_worth 19 = .ok (.istore 4, 2) := by decide +kernel
theorem dX12_worth_21 : decode cX12_worth 21 = .ok (.iload_n 3, 1) := by decide +kernel
theorem dX12_worth_22 : decode cX12_worth 22 = .ok (.bipush 10, 2) := by decide +kernel
theorem dX12_worth_24 : decode cX12_worth 24 = .ok (.idiv, 1) := by decide +kernel
theorem dX12_worth_25 : decode cX12_worth 25 = .ok (.istore 5, 2) := by decide +kernel
theorem dX12_worth_27 : decode cX12_worth 27 = .ok (.iload 5, 2) := by decide +kernel
theorem dX12_worth_29 : decode cX12_worth 29 = .ok (.ifCond .lt 30, 3) := by decide +kernel
theorem dX12_worth_32 : decode cX12_worth 32 = .ok (.aload_n 0, 1) := by decide +kernel
theorem dX12_worth_33 : decode cX12_worth 33 = .ok (.iconst 0, 1) := by decide +kernel
theorem dX12_worth_34 : decode cX12_worth 34 = .ok (.iload_n 2, 1) := by decide +kernel
theorem dX12_worth_35 : decode cX12_worth 35 = .ok (.bipush 10, 2) := by decide +kernel
theorem dX12_worth_37 : decode cX12_worth 37 = .ok (.iload 5, 2) := by decide +kernel
theorem dX12_worth_39 : decode cX12_worth 39 = .ok (.imul, 1) := by decide +kernel
theorem dX12_worth_40 : decode cX12_worth 40 = .ok (.iload_n 3, 1) := by decide +kernel
theorem dX12_worth_41 : decode cX12_worth 41 = .ok (.bipush 10, 2) := by decide +kernel
theorem dX12_worth_43 : decode cX12_worth 43 = .ok (.irem, 1) := by decide +kernel
theorem dX12_worth_44 : decode cX12_worth 44 = .ok (.iadd, 1) := by decide +kernel
theorem dX12_worth_45 : decode cX12_worth 45 = .ok (.invokevirtual 442, 3) := by decide +kernel
theorem dX12_worth_48 : decode cX12_worth 48 = .ok (.iload 4, 2) := by decide +kernel
theorem dX12_worth_50 : decode cX12_worth 50 = .ok (.if_icmp .ge 9, 3) := by decide +kernel
theorem dX12_worth_53 : decode cX12_worth 53 = .ok (.iinc 5 (-1), 3) := by decide +kernel
theorem dX12_worth_56 : decode cX12_worth 56 = .ok (.goto (-29), 3) := by decide +kernel
theorem dX12_worth_59 : decode cX12_worth 59 = .ok (.iload 5, 2) := by decide +kernel
theorem dX12_worth_61 : decode cX12_worth 61 = .ok (.ifCond .ge 7, 3) := by decide +kernel
theorem dX12_worth_64 : decode cX12_worth 64 = .ok (.iconst (-1), 1) := by decide +kernel
theorem dX12_worth_65 : decode cX12_worth 65 = .ok (.goto 10, 3) := by decide +kernel
theorem dX12_worth_68 : decode cX12_worth 68 = .ok (.iload_n 3, 1) := by decide +kernel
theorem dX12_worth_69 : decode cX12_worth 69 = .ok (.bipush 10, 2) := by decide +kernel
theorem dX12_worth_71 : decode cX12_worth 71 = .ok (.idiv, 1) := by decide +kernel
theorem dX12_worth_72 : decode cX12_worth 72 = .ok (.iload 5, 2) := by decide +kernel
theorem dX12_worth_74 : decode cX12_worth 74 = .ok (.isub, 1) := by decide +kernel
theorem dX12_worth_75 : decode cX12_worth 75 = .ok (.ireturn, 1) := by decide +kernel
theorem dX12_partedNow_0 : decode cX12_partedNow 0 = .ok (.aload_n 0, 1) := by decide +kernel
theorem dX12_partedNow_1 : decode cX12_partedNow 1 = .ok (.iload_n 1, 1) := by decide +kernel
theorem dX12_partedNow_2 : decode cX12_partedNow 2 = .ok (.invokevirtual 380, 3) := by decide +kernel
theorem dX12_partedNow_5 : decode cX12_partedNow 5 = .ok (.aload_n 0, 1) := by decide +kernel
theorem dX12_partedNow_6 : decode cX12_partedNow 6 = .ok (.getfield 362, 3) := by decide +kernel
theorem dX12_partedNow_9 : decode cX12_partedNow 9 = .ok (.lstore_n 3, 1) := by decide +kernel
theorem dX12_partedNow_10 : decode cX12_partedNow 10 = .ok (.iconst 0, 1) := by decide +kernel
theorem dX12_partedNow_11 : decode cX12_partedNow 11 = .ok (.istore 5, 2) := by decide +kernel
theorem dX12_partedNow_13 : decode cX12_partedNow 13 = .ok (.iload 5, 2) := by decide +kernel
theorem dX12_partedNow_15 : decode cX12_partedNow 15 = .ok (.aload_n 0, 1) := by decide +kernel
theorem dX12_partedNow_16 : decode cX12_partedNow 16 = .ok (.getfield 220, 3) := by decide +kernel
theorem dX12_partedNow_19 : decode cX12_partedNow 19 = .ok (.if_icmp .ge 23, 3) := by decide +kernel
theorem dX12_partedNow_22 : decode cX12_partedNow 22 = .ok (.aload_n 0, 1) := by decide +kernel
theorem dX12_partedNow_23 : decode cX12_partedNow 23 = .ok (.getfield 85, 3) := by decide +kernel
theorem dX12_partedNow_26 : decode cX12_partedNow 26 = .ok (.iload 5, 2) := by decide +kernel
theorem dX12_partedNow_28 : decode cX12_partedNow 28 = .ok (.aload_n 0, 1) := by decide +kernel
theorem dX12_partedNow_29 : decode cX12_partedNow 29 = .ok (.getfield 76, 3) := by decide +kernel
theorem dX12_partedNow_32 : decode cX12_partedNow 32 = .ok (.iload 5, 2) := by decide +kernel
theorem dX12_partedNow_34 : decode cX12_partedNow 34 = .ok (.laload, 1) := by decide +kernel
theorem dX12_partedNow_35 : decode cX12_partedNow 35 = .ok (.lastore, 1) := by decide +kernel
theorem dX12_partedNow_36 : decode cX12_partedNow 36 = .ok (.iinc 5 1, 3) := by decide +kernel
theorem dX12_partedNow_39 : decode cX12_partedNow 39 = .ok (.goto (-26), 3) := by decide +kernel
theorem dX12_partedNow_42 : decode cX12_partedNow 42 = .ok (.aload_n 0, 1) := by decide +kernel
theorem dX12_partedNow_43 : decode cX12_partedNow 43 = .ok (.iload_n 2, 1) := by decide +kernel
theorem dX12_partedNow_44 : decode cX12_partedNow 44 = .ok (.invokevirtual 380, 3) := by decide +kernel
theorem dX12_partedNow_47 : decode cX12_partedNow 47 = .ok (.lconst 0, 1) := by decide +kernel
theorem dX12_partedNow_48 : decode cX12_partedNow 48 = .ok (.lstore 5, 2) := by decide +kernel
theorem dX12_partedNow_50 : decode cX12_partedNow 50 = .ok (.iconst 0, 1) := by decide +kernel
theorem dX12_partedNow_51 : decode cX12_partedNow 51 = .ok (.istore 7, 2) := by decide +kernel
theorem dX12_partedNow_53 : decode cX12_partedNow 53 = .ok (.iload 7, 2) := by decide +kernel
theorem dX12_partedNow_55 : decode cX12_partedNow 55 = .ok (.aload_n 0, 1) := by decide +kernel
theorem dX12_partedNow_56 : decode cX12_partedNow 56 = .ok (.getfield 220, 3) := by decide +kernel
theorem dX12_partedNow_59 : decode cX12_partedNow 59 = .ok (.if_icmp .ge 53, 3) := by decide +kernel
theorem dX12_partedNow_62 : decode cX12_partedNow 62 = .ok (.aload_n 0, 1) := by decide +kernel
theorem dX12_partedNow_63 : decode cX12_partedNow 63 = .ok (.getfield 85, 3) := by decide +kernel
theorem dX12_partedNow_66 : decode cX12_partedNow 66 = .ok (.iload 7, 2) := by decide +kernel
theorem dX12_partedNow_68 : decode cX12_partedNow 68 = .ok (.laload, 1) := by decide +kernel
theorem dX12_partedNow_69 : decode cX12_partedNow 69 = .ok (.aload_n 0, 1) := by decide +kernel
theorem dX12_partedNow_70 : decode cX12_partedNow 70 = .ok (.getfield 362, 3) := by decide +kernel
theorem dX12_partedNow_73 : decode cX12_partedNow 73 = .ok (.lmul, 1) := by decide +kernel
theorem dX12_partedNow_74 : decode cX12_partedNow 74 = .ok (.aload_n 0, 1) := by decide +kernel
theorem dX12_partedNow_75 : decode cX12_partedNow 75 = .ok (.getfield 76, 3) := by decide +kernel
theorem dX12_partedNow_78 : decode cX12_partedNow 78 = .ok (.iload 7, 2) := by decide +kernel
theorem dX12_partedNow_80 : decode cX12_partedNow 80 = .ok (.laload, 1) := by decide +kernel
theorem dX12_partedNow_81 : decode cX12_partedNow 81 = .ok (.lload_n 3, 1) := by decide +kernel
theorem dX12_partedNow_82 : decode cX12_partedNow 82 = .ok (.lmul, 1) := by decide +kernel
theorem dX12_partedNow_83 : decode cX12_partedNow 83 = .ok (.lsub, 1) := by decide +kernel
theorem dX12_partedNow_84 : decode cX12_partedNow 84 = .ok (.lstore 8, 2) := by decide +kernel
theorem dX12_partedNow_86 : decode cX12_partedNow 86 = .ok (.lload 5, 2) := by decide +kernel
theorem dX12_partedNow_88 : decode cX12_partedNow 88 = .ok (.lload 8, 2) := by decide +kernel
theorem dX12_partedNow_90 : decode cX12_partedNow 90 = .ok (.lconst 0, 1) := by decide +kernel
theorem dX12_partedNow_91 : decode cX12_partedNow 91 = .ok (.lcmp, 1) := by decide +kernel
theorem dX12_partedNow_92 : decode cX12_partedNow 92 = .ok (.ifCond .ge 9, 3) := by decide +kernel
theorem dX12_partedNow_95 : decode cX12_partedNow 95 = .ok (.lload 8, 2) := by decide +kernel
theorem dX12_partedNow_97 : decode cX12_partedNow 97 = .ok (.lneg, 1) := by decide +kernel
theorem dX12_partedNow_98 : decode cX12_partedNow 98 = .ok (.goto 5, 3) := by decide +kernel
theorem dX12_partedNow_101 : decode cX12_partedNow 101 = .ok (.lload 8, 2) := by decide +kernel
theorem dX12_partedNow_103 : decode cX12_partedNow 103 = .ok (.ladd, 1) := by decide +kernel
theorem dX12_partedNow_104 : decode cX12_partedNow 104 = .ok (.lstore 5, 2) := by decide +kernel
theorem dX12_partedNow_106 : decode cX12_partedNow 106 = .ok (.iinc 7 1, 3) := by decide +kernel
theorem dX12_partedNow_109 : decode cX12_partedNow 109 = .ok (.goto (-56), 3) := by decide +kernel
theorem dX12_partedNow_112 : decode cX12_partedNow 112 = .ok (.ldc2_w 445, 3) := by decide +kernel
theorem dX12_partedNow_115 : decode cX12_partedNow 115 = .ok (.lload_n 3, 1) := by decide +kernel
theorem dX12_partedNow_116 : decode cX12_partedNow 116 = .ok (.lmul, 1) := by decide +kernel
theorem dX12_partedNow_117 : decode cX12_partedNow 117 = .ok (.aload_n 0, 1) := by decide +kernel
theorem dX12_partedNow_118 : decode cX12_partedNow 118 = .ok (.getfield 362, 3) := by decide +kernel
theorem dX12_partedNow_121 : decode cX12_partedNow 121 = .ok (.lmul, 1) := by decide +kernel
theorem dX12_partedNow_122 : decode cX12_partedNow 122 = .ok (.lstore 7, 2) := by decide +kernel
theorem dX12_partedNow_124 : decode cX12_partedNow 124 = .ok (.lload 5, 2) := by decide +kernel
theorem dX12_partedNow_126 : decode cX12_partedNow 126 = .ok (.lload 7, 2) := by decide +kernel
theorem dX12_partedNow_128 : decode cX12_partedNow 128 = .ok (.lcmp, 1) := by decide +kernel
theorem dX12_partedNow_129 : decode cX12_partedNow 129 = .ok (.ifCond .ne 7, 3) := by decide +kernel
theorem dX12_partedNow_132 : decode cX12_partedNow 132 = .ok (.sipush 1000, 3) := by decide +kernel
theorem dX12_partedNow_135 : decode cX12_partedNow 135 = .ok (.ireturn, 1) := by decide +kernel
theorem dX12_partedNow_136 : decode cX12_partedNow 136 = .ok (.iconst 0, 1) := by decide +kernel
theorem dX12_partedNow_137 : decode cX12_partedNow 137 = .ok (.istore 9, 2) := by decide +kernel
theorem dX12_partedNow_139 : decode cX12_partedNow 139 = .ok (.iconst 0, 1) := by decide +kernel
theorem dX12_partedNow_140 : decode cX12_partedNow 140 = .ok (.istore 10, 2) := by decide +kernel
theorem dX12_partedNow_142 : decode cX12_partedNow 142 = .ok (.iload 10, 2) := by decide +kernel
theorem dX12_partedNow_144 : decode cX12_partedNow 144 = .ok (.iconst 3, 1) := by decide +kernel
theorem dX12_partedNow_145 : decode cX12_partedNow 145 = .ok (.if_icmp .ge 38, 3) := by decide +kernel
theorem dX12_partedNow_148 : decode cX12_partedNow 148 = .ok (.lload 5, 2) := by decide +kernel
theorem dX12_partedNow_150 : decode cX12_partedNow 150 = .ok (.ldc2_w 124, 3) := by decide +kernel
theorem dX12_partedNow_153 : decode cX12_partedNow 153 = .ok (.lmul, 1) := by decide +kernel
theorem dX12_partedNow_154 : decode cX12_partedNow 154 = .ok (.lstore 5, 2) := by decide +kernel
theorem dX12_partedNow_156 : decode cX12_partedNow 156 = .ok (.bipush 10, 2) := by decide +kernel
theorem dX12_partedNow_158 : decode cX12_partedNow 158 = .ok (.iload 9, 2) := by decide +kernel
theorem dX12_partedNow_160 : decode cX12_partedNow 160 = .ok (.imul, 1) := by decide +kernel
theorem dX12_partedNow_161 : decode cX12_partedNow 161 = .ok (.lload 5, 2) := by decide +kernel
theorem dX12_partedNow_163 : decode cX12_partedNow 163 = .ok (.lload 7, 2) := by decide +kernel
theorem dX12_partedNow_165 : decode cX12_partedNow 165 = .ok (.ldiv, 1) := by decide +kernel
theorem dX12_partedNow_166 : decode cX12_partedNow 166 = .ok (.l2i, 1) := by decide +kernel
theorem dX12_partedNow_167 : decode cX12_partedNow 167 = .ok (.iadd, 1) := by decide +kernel
theorem dX12_partedNow_168 : decode cX12_partedNow 168 = .ok (.istore 9, 2) := by decide +kernel
theorem dX12_partedNow_170 : decode cX12_partedNow 170 = .ok (.lload 5, 2) := by decide +kernel
theorem dX12_partedNow_172 : decode cX12_partedNow 172 = .ok (.lload 7, 2) := by decide +kernel
theorem dX12_partedNow_174 : decode cX12_partedNow 174 = .ok (.lrem, 1) := by decide +kernel
theorem dX12_partedNow_175 : decode cX12_partedNow 175 = .ok (.lstore 5, 2) := by decide +kernel
theorem dX12_partedNow_177 : decode cX12_partedNow 177 = .ok (.iinc 10 1, 3) := by decide +kernel
theorem dX12_partedNow_180 : decode cX12_partedNow 180 = .ok (.goto (-38), 3) := by decide +kernel
theorem dX12_partedNow_183 : decode cX12_partedNow 183 = .ok (.iload 9, 2) := by decide +kernel
theorem dX12_partedNow_185 : decode cX12_partedNow 185 = .ok (.ireturn, 1) := by decide +kernel
theorem dX12_areLaws_0 : decode cX12_areLaws 0 = .ok (.iload_n 0, 1) := by decide +kernel
theorem dX12_areLaws_1 : decode cX12_areLaws 1 = .ok (.ifCond .lt 27, 3) := by decide +kernel
theorem dX12_areLaws_4 : decode cX12_areLaws 4 = .ok (.iload_n 0, 1) := by decide +kernel
theorem dX12_areLaws_5 : decode cX12_areLaws 5 = .ok (.bipush 10, 2) := by decide +kernel
theorem dX12_areLaws_7 : decode cX12_areLaws 7 = .ok (.idiv, 1) := by decide +kernel
theorem dX12_areLaws_8 : decode cX12_areLaws 8 = .ok (.invokestatic 370, 3) := by decide +kernel
theorem dX12_areLaws_11 : decode cX12_areLaws 11 = .ok (.ifCond .eq 17, 3) := by decide +kernel
theorem dX12_areLaws_14 : decode cX12_areLaws 14 = .ok (.iload_n 0, 1) := by decide +kernel
theorem dX12_areLaws_15 : decode cX12_areLaws 15 = .ok (.bipush 10, 2) := by decide +kernel
theorem dX12_areLaws_17 : decode cX12_areLaws 17 = .ok (.irem, 1) := by decide +kernel
theorem dX12_areLaws_18 : decode cX12_areLaws 18 = .ok (.invokestatic 370, 3) := by decide +kernel
theorem dX12_areLaws_21 : decode cX12_areLaws 21 = .ok (.ifCond .eq 7, 3) := by decide +kernel
theorem dX12_areLaws_24 : decode cX12_areLaws 24 = .ok (.iconst 1, 1) := by decide +kernel
theorem dX12_areLaws_25 : decode cX12_areLaws 25 = .ok (.goto 4, 3) := by decide +kernel
theorem dX12_areLaws_28 : decode cX12_areLaws 28 = .ok (.iconst 0, 1) := by decide +kernel
theorem dX12_areLaws_29 : decode cX12_areLaws 29 = .ok (.ireturn, 1) := by decide +kernel
theorem dX12_parted_0 : decode cX12_parted 0 = .ok (.iload_n 1, 1) := by decide +kernel
theorem dX12_parted_1 : decode cX12_parted 1 = .ok (.invokestatic 447, 3) := by decide +kernel
theorem dX12_parted_4 : decode cX12_parted 4 = .ok (.ifCond .eq 14, 3) := by decide +kernel
theorem dX12_parted_7 : decode cX12_parted 7 = .ok (.aload_n 0, 1) := by decide +kernel
theorem dX12_parted_8 : decode cX12_parted 8 = .ok (.iload_n 2, 1) := by decide +kernel
theorem dX12_parted_9 : decode cX12_parted 9 = .ok (.iload_n 3, 1) := by decide +kernel
theorem dX12_parted_10 : decode cX12_parted 10 = .ok (.iload 4, 2) := by decide +kernel
theorem dX12_parted_12 : decode cX12_parted 12 = .ok (.invokevirtual 373, 3) := by decide +kernel
theorem dX12_parted_15 : decode cX12_parted 15 = .ok (.ifCond .ne 5, 3) := by decide +kernel
theorem dX12_parted_18 : decode cX12_parted 18 = .ok (.iconst (-1), 1) := by decide +kernel
theorem dX12_parted_19 : decode cX12_parted 19 = .ok (.ireturn, 1) := by decide +kernel
theorem dX12_parted_20 : decode cX12_parted 20 = .ok (.aload_n 0, 1) := by decide +kernel
theorem dX12_parted_21 : decode cX12_parted 21 = .ok (.iload_n 2, 1) := by decide +kernel
theorem dX12_parted_22 : decode cX12_parted 22 = .ok (.iload_n 3, 1) := by decide +kernel
theorem dX12_parted_23 : decode cX12_parted 23 = .ok (.iload 4, 2) := by decide +kernel
theorem dX12_parted_25 : decode cX12_parted 25 = .ok (.invokevirtual 376, 3) := by decide +kernel
theorem dX12_parted_28 : decode cX12_parted 28 = .ok (.aload_n 0, 1) := by decide +kernel
theorem dX12_parted_29 : decode cX12_parted 29 = .ok (.iload_n 1, 1) := by decide +kernel
theorem dX12_parted_30 : decode cX12_parted 30 = .ok (.bipush 10, 2) := by decide +kernel
theorem dX12_parted_32 : decode cX12_parted 32 = .ok (.idiv, 1) := by decide +kernel
theorem dX12_parted_33 : decode cX12_parted 33 = .ok (.iload_n 1, 1) := by decide +kernel
theorem dX12_parted_34 : decode cX12_parted 34 = .ok (.bipush 10, 2) := by decide +kernel
theorem dX12_parted_36 : decode cX12_parted 36 = .ok (.irem, 1) := by decide +kernel
theorem dX12_parted_37 : decode cX12_parted 37 = .ok (.invokevirtual 450, 3) := by decide +kernel
theorem dX12_parted_40 : decode cX12_parted 40 = .ok (.ireturn, 1) := by decide +kernel
theorem dX12_next_0 : decode cX12_next 0 = .ok (.iload_n 1, 1) := by decide +kernel
theorem dX12_next_1 : decode cX12_next 1 = .ok (.invokestatic 447, 3) := by decide +kernel
theorem dX12_next_4 : decode cX12_next 4 = .ok (.ifCond .eq 31, 3) := by decide +kernel
theorem dX12_next_7 : decode cX12_next 7 = .ok (.aload_n 0, 1) := by decide +kernel
theorem dX12_next_8 : decode cX12_next 8 = .ok (.iload_n 2, 1) := by decide +kernel
theorem dX12_next_9 : decode cX12_next 9 = .ok (.invokevirtual 302, 3) := by decide +kernel
theorem dX12_next_12 : decode cX12_next 12 = .ok (.ifCond .eq 23, 3) := by decide +kernel
theorem dX12_next_15 : decode cX12_next 15 = .ok (.iload_n 3, 1) := by decide +kernel
theorem dX12_next_16 : decode cX12_next 16 = .ok (.iconst 0, 1) := by decide +kernel
theorem dX12_next_17 : decode cX12_next 17 = .ok (.bipush 9, 2) := by decide +kernel
theorem dX12_next_19 : decode cX12_next 19 = .ok (.invokestatic 98, 3) := by decide +kernel
theorem dX12_next_22 : decode cX12_next 22 = .ok (.ifCond .eq 13, 3) := by decide +kernel
theorem dX12_next_25 : decode cX12_next 25 = .ok (.iload 4, 2) := by decide +kernel
theorem dX12_next_27 : decode cX12_next 27 = .ok (.iconst 0, 1) := by decide +kernel
theorem dX12_next_28 : decode cX12_next 28 = .ok (.iconst 1, 1) := by decide +kernel
theorem dX12_next_29 : decode cX12_next 29 = .ok (.invokestatic 98, 3) := by decide +kernel
theorem dX12_next_32 : decode cX12_next 32 = .ok (.ifCond .ne 5, 3) := by decide +kernel
theorem dX12_next_35 : decode cX12_next 35 = .ok (.iconst (-1), 1) := by decide +kernel
theorem dX12_next_36 : decode cX12_next 36 = .ok (.ireturn, 1) := by decide +kernel
theorem dX12_next_37 : decode cX12_next 37 = .ok (.iconst (-1), 1) := by decide +kernel
theorem dX12_next_38 : decode cX12_next 38 = .ok (.istore 5, 2) := by decide +kernel
theorem dX12_next_40 : decode cX12_next 40 = .ok (.iconst (-1), 1) := by decide +kernel
theorem dX12_next_41 : decode cX12_next 41 = .ok (.istore 6, 2) := by decide +kernel
theorem dX12_next_43 : decode cX12_next 43 = .ok (.iconst 0, 1) := by decide +kernel
theorem dX12_next_44 : decode cX12_next 44 = .ok (.istore 7, 2) := by decide +kernel
theorem dX12_next_46 : decode cX12_next 46 = .ok (.iload 7, 2) := by decide +kernel
theorem dX12_next_48 : decode cX12_next 48 = .ok (.aload_n 0, 1) := by decide +kernel
theorem dX12_next_49 : decode cX12_next 49 = .ok (.getfield 220, 3) := by decide +kernel
theorem dX12_next_52 : decode cX12_next 52 = .ok (.if_icmp .ge 112, 3) := by decide +kernel
theorem dX12_next_55 : decode cX12_next 55 = .ok (.iconst 0, 1) := by decide +kernel
theorem dX12_next_56 : decode cX12_next 56 = .ok (.istore 8, 2) := by decide +kernel
theorem dX12_next_58 : decode cX12_next 58 = .ok (.iload 8, 2) := by decide +kernel
theorem dX12_next_60 : decode cX12_next 60 = .ok (.aload_n 0, 1) := by decide +kernel
theorem dX12_next_61 : decode cX12_next 61 = .ok (.getfield 220, 3) := by decide +kernel
theorem dX12_next_64 : decode cX12_next 64 = .ok (.if_icmp .ge 94, 3) := by decide +kernel
theorem dX12_next_67 : decode cX12_next 67 = .ok (.iconst 0, 1) := by decide +kernel
theorem dX12_next_68 : decode cX12_next 68 = .ok (.istore 9, 2) := by decide +kernel
theorem dX12_next_70 : decode cX12_next 70 = .ok (.iload 9, 2) := by decide +kernel
theorem dX12_next_72 : decode cX12_next 72 = .ok (.bipush 10, 2) := by decide +kernel
theorem dX12_next_74 : decode cX12_next 74 = .ok (.if_icmp .ge 78, 3) := by decide +kernel
theorem dX12_next_77 : decode cX12_next 77 = .ok (.aload_n 0, 1) := by decide +kernel
theorem dX12_next_78 : decode cX12_next 78 = .ok (.bipush 100, 2) := by decide +kernel
theorem dX12_next_80 : decode cX12_next 80 = .ok (.iload_n 2, 1) := by decide +kernel
theorem dX12_next_81 : decode cX12_next 81 = .ok (.imul, 1) := by decide +kernel
theorem dX12_next_82 : decode cX12_next 82 = .ok (.bipush 10, 2) := by decide +kernel
theorem dX12_next_84 : decode cX12_next 84 = .ok (.iload 7, 2) := by decide +kernel
theorem dX12_next_86 : decode cX12_next 86 = .ok (.imul, 1) := by decide +kernel
theorem dX12_next_87 : decode cX12_next 87 = .ok (.iadd, 1) := by decide +kernel
theorem dX12_next_88 : decode cX12_next 88 = .ok (.iload 8, 2) := by decide +kernel
theorem dX12_next_90 : decode cX12_next 90 = .ok (.iadd, 1) := by decide +kernel
theorem dX12_next_91 : decode cX12_next 91 = .ok (.bipush 10, 2) := by decide +kernel
theorem dX12_next_93 : decode cX12_next 93 = .ok (.iload 9, 2) := by decide +kernel
theorem dX12_next_95 : decode cX12_next 95 = .ok (.imul, 1) := by decide +kernel
theorem dX12_next_96 : decode cX12_next 96 = .ok (.iload_n 3, 1) := by decide +kernel
theorem dX12_next_97 : decode cX12_next 97 = .ok (.iadd, 1) := by decide +kernel
theorem dX12_next_98 : decode cX12_next 98 = .ok (.iconst 0, 1) := by decide +kernel
theorem dX12_next_99 : decode cX12_next 99 = .ok (.invokevirtual 376, 3) := by decide +kernel
theorem dX12_next_102 : decode cX12_next 102 = .ok (.aload_n 0, 1) := by decide +kernel
theorem dX12_next_103 : decode cX12_next 103 = .ok (.iload_n 1, 1) := by decide +kernel
theorem dX12_next_104 : decode cX12_next 104 = .ok (.bipush 10, 2) := by decide +kernel
theorem dX12_next_106 : decode cX12_next 106 = .ok (.idiv, 1) := by decide +kernel
theorem dX12_next_107 : decode cX12_next 107 = .ok (.iload_n 1, 1) := by decide +kernel
theorem dX12_next_108 : decode cX12_next 108 = .ok (.bipush 10, 2) := by decide +kernel
theorem dX12_next_110 : decode cX12_next 110 = .ok (.irem, 1) := by decide +kernel
theorem dX12_next_111 : decode cX12_next 111 = .ok (.invokevirtual 450, 3) := by decide +kernel
theorem dX12_next_114 : decode cX12_next 114 = .ok (.istore 10, 2) := by decide +kernel
theorem dX12_next_116 : decode cX12_next 116 = .ok (.iload 10, 2) := by decide +kernel
theorem dX12_next_118 : decode cX12_next 118 = .ok (.iload 6, 2) := by decide +kernel
theorem dX12_next_120 : decode cX12_next 120 = .ok (.if_icmp .gt 6, 3) := by decide +kernel
theorem dX12_next_123 : decode cX12_next 123 = .ok (.goto 23, 3) := by decide +kernel
theorem dX12_next_126 : decode cX12_next 126 = .ok (.iload 10, 2) := by decide +kernel
theorem dX12_next_128 : decode cX12_next 128 = .ok (.istore 6, 2) := by decide +kernel
theorem dX12_next_130 : decode cX12_next 130 = .ok (.bipush 100, 2) := by decide +kernel
theorem dX12_next_132 : decode cX12_next 132 = .ok (.iload 7, 2) := by decide +kernel
theorem dX12_next_134 : decode cX12_next 134 = .ok (.imul, 1) := by decide +kernel
theorem dX12_next_135 : decode cX12_next 135 = .ok (.bipush 10, 2) := by decide +kernel
theorem dX12_next_137 : decode cX12_next 137 = .ok (.iload 8, 2) := by decide +kernel
theorem dX12_next_139 : decode cX12_next 139 = .ok (.imul, 1) := by decide +kernel
theorem dX12_next_140 : decode cX12_next 140 = .ok (.iadd, 1) := by decide +kernel
theorem dX12_next_141 : decode cX12_next 141 = .ok (.iload 9, 2) := by decide +kernel
theorem dX12_next_143 : decode cX12_next 143 = .ok (.iadd, 1) := by decide +kernel
theorem dX12_next_144 : decode cX12_next 144 = .ok (.istore 5, 2) := by decide +kernel
theorem dX12_next_146 : decode cX12_next 146 = .ok (.iinc 9 1, 3) := by decide +kernel
theorem dX12_next_149 : decode cX12_next 149 = .ok (.goto (-79), 3) := by decide +kernel
theorem dX12_next_152 : decode cX12_next 152 = .ok (.iinc 8 1, 3) := by decide +kernel
theorem dX12_next_155 : decode cX12_next 155 = .ok (.goto (-97), 3) := by decide +kernel
theorem dX12_next_158 : decode cX12_next 158 = .ok (.iinc 7 1, 3) := by decide +kernel
theorem dX12_next_161 : decode cX12_next 161 = .ok (.goto (-115), 3) := by decide +kernel
theorem dX12_next_164 : decode cX12_next 164 = .ok (.iload 4, 2) := by decide +kernel
theorem dX12_next_166 : decode cX12_next 166 = .ok (.ifCond .ne 8, 3) := by decide +kernel
theorem dX12_next_169 : decode cX12_next 169 = .ok (.iload 5, 2) := by decide +kernel
theorem dX12_next_171 : decode cX12_next 171 = .ok (.goto 5, 3) := by decide +kernel
theorem dX12_next_174 : decode cX12_next 174 = .ok (.iload 6, 2) := by decide +kernel
theorem dX12_next_176 : decode cX12_next 176 = .ok (.ireturn, 1) := by decide +kernel
theorem dX12_knowing_0 : decode cX12_knowing 0 = .ok (.aload_n 0, 1) := by decide +kernel
theorem dX12_knowing_1 : decode cX12_knowing 1 = .ok (.iload_n 1, 1) := by decide +kernel
theorem dX12_knowing_2 : decode cX12_knowing 2 = .ok (.iload_n 2, 1) := by decide +kernel
theorem dX12_knowing_3 : decode cX12_knowing 3 = .ok (.iload_n 3, 1) := by decide +kernel
theorem dX12_knowing_4 : decode cX12_knowing 4 = .ok (.iload 4, 2) := by decide +kernel
theorem dX12_knowing_6 : decode cX12_knowing 6 = .ok (.invokevirtual 383, 3) := by decide +kernel
theorem dX12_knowing_9 : decode cX12_knowing 9 = .ok (.ifCond .ne 5, 3) := by decide +kernel
theorem dX12_knowing_12 : decode cX12_knowing 12 = .ok (.iconst (-1), 1) := by decide +kernel
theorem dX12_knowing_13 : decode cX12_knowing 13 = .ok (.ireturn, 1) := by decide +kernel
theorem dX12_knowing_14 : decode cX12_knowing 14 = .ok (.aload_n 0, 1) := by decide +kernel
theorem dX12_knowing_15 : decode cX12_knowing 15 = .ok (.invokevirtual 393, 3) := by decide +kernel
theorem dX12_knowing_18 : decode cX12_knowing 18 = .ok (.istore 5, 2) := by decide +kernel
theorem dX12_knowing_20 : decode cX12_knowing 20 = .ok (.aload_n 0, 1) := by decide +kernel
theorem dX12_knowing_21 : decode cX12_knowing 21 = .ok (.iconst 0, 1) := by decide +kernel
theorem dX12_knowing_22 : decode cX12_knowing 22 = .ok (.putfield 323, 3) := by decide +kernel
theorem dX12_knowing_25 : decode cX12_knowing 25 = .ok (.aload_n 0, 1) := by decide +kernel
theorem dX12_knowing_26 : decode cX12_knowing 26 = .ok (.iload_n 1, 1) := by decide +kernel
theorem dX12_knowing_27 : decode cX12_knowing 27 = .ok (.invokevirtual 380, 3) := by decide +kernel
theorem dX12_knowing_30 : decode cX12_knowing 30 = .ok (.aload_n 0, 1) := by decide +kernel
theorem dX12_knowing_31 : decode cX12_knowing 31 = .ok (.invokevirtual 393, 3) := by decide +kernel
theorem dX12_knowing_34 : decode cX12_knowing 34 = .ok (.iload 5, 2) := by decide +kernel
theorem dX12_knowing_36 : decode cX12_knowing 36 = .ok (.if_icmp .ne 7, 3) := by decide +kernel
theorem dX12_knowing_39 : decode cX12_knowing 39 = .ok (.iconst 1, 1) := by decide +kernel
theorem dX12_knowing_40 : decode cX12_knowing 40 = .ok (.goto 4, 3) := by decide +kernel
theorem dX12_knowing_43 : decode cX12_knowing 43 = .ok (.iconst 0, 1) := by decide +kernel
theorem dX12_knowing_44 : decode cX12_knowing 44 = .ok (.ireturn, 1) := by decide +kernel
theorem dX12_brought_0 : decode cX12_brought 0 = .ok (.lload_n 0, 1) := by decide +kernel
theorem dX12_brought_1 : decode cX12_brought 1 = .ok (.ldc2_w 453, 3) := by decide +kernel
theorem dX12_brought_4 : decode cX12_brought 4 = .ok (.lcmp, 1) := by decide +kernel
theorem dX12_brought_5 : decode cX12_brought 5 = .ok (.ifCond .ge 9, 3) := by decide +kernel
theorem dX12_brought_8 : decode cX12_brought 8 = .ok (.ldc2_w 453, 3) := by decide +kernel
theorem dX12_brought_11 : decode cX12_brought 11 = .ok (.goto 18, 3) := by decide +kernel
theorem dX12_brought_14 : decode cX12_brought 14 = .ok (.lload_n 0, 1) := by decide +kernel
theorem dX12_brought_15 : decode cX12_brought 15 = .ok (.ldc2_w 455, 3) := by decide +kernel
theorem dX12_brought_18 : decode cX12_brought 18 = .ok (.lcmp, 1) := by decide +kernel
theorem dX12_brought_19 : decode cX12_brought 19 = .ok (.ifCond .le 9, 3) := by decide +kernel
theorem dX12_brought_22 : decode cX12_brought 22 = .ok (.ldc2_w 455, 3) := by decide +kernel
theorem dX12_brought_25 : decode cX12_brought 25 = .ok (.goto 4, 3) := by decide +kernel
theorem dX12_brought_28 : decode cX12_brought 28 = .ok (.lload_n 0, 1) := by decide +kernel
theorem dX12_brought_29 : decode cX12_brought 29 = .ok (.l2i, 1) := by decide +kernel
theorem dX12_brought_30 : decode cX12_brought 30 = .ok (.ireturn, 1) := by decide +kernel
theorem dX12_tellsNames_0 : decode cX12_tellsNames 0 = .ok (.aload_n 0, 1) := by decide +kernel
theorem dX12_tellsNames_1 : decode cX12_tellsNames 1 = .ok (.iload_n 1, 1) := by decide +kernel
theorem dX12_tellsNames_2 : decode cX12_tellsNames 2 = .ok (.iload_n 2, 1) := by decide +kernel
theorem dX12_tellsNames_3 : decode cX12_tellsNames 3 = .ok (.iload_n 3, 1) := by decide +kernel
theorem dX12_tellsNames_4 : decode cX12_tellsNames 4 = .ok (.invokevirtual 376, 3) := by decide +kernel
theorem dX12_tellsNames_7 : decode cX12_tellsNames 7 = .ok (.aload_n 0, 1) := by decide +kernel
theorem dX12_tellsNames_8 : decode cX12_tellsNames 8 = .ok (.iconst 4, 1) := by decide +kernel
theorem dX12_tellsNames_9 : decode cX12_tellsNames 9 = .ok (.invokevirtual 380, 3) := by decide +kernel
theorem dX12_tellsNames_12 : decode cX12_tellsNames 12 = .ok (.aload_n 0, 1) := by decide +kernel
theorem dX12_tellsNames_13 : decode cX12_tellsNames 13 = .ok (.getfield 88, 3) := by decide +kernel
theorem dX12_tellsNames_16 : decode cX12_tellsNames 16 = .ok (.iconst 0, 1) := by decide +kernel
theorem dX12_tellsNames_17 : decode cX12_tellsNames 17 = .ok (.aload_n 0, 1) := by decide +kernel
theorem dX12_tellsNames_18 : decode cX12_tellsNames 18 = .ok (.iconst 3, 1) := by decide +kernel
theorem dX12_tellsNames_19 : decode cX12_tellsNames 19 = .ok (.invokevirtual 390, 3) := by decide +kernel
theorem dX12_tellsNames_22 : decode cX12_tellsNames 22 = .ok (.iastore, 1) := by decide +kernel
theorem dX12_tellsNames_23 : decode cX12_tellsNames 23 = .ok (.aload_n 0, 1) := by decide +kernel
theorem dX12_tellsNames_24 : decode cX12_tellsNames 24 = .ok (.getfield 88, 3) := by decide +kernel
theorem dX12_tellsNames_27 : decode cX12_tellsNames 27 = .ok (.iconst 1, 1) := by decide +kernel
theorem dX12_tellsNames_28 : decode cX12_tellsNames 28 = .ok (.aload_n 0, 1) := by decide +kernel
theorem dX12_tellsNames_29 : decode cX12_tellsNames 29 = .ok (.invokevirtual 396, 3) := by decide +kernel
theorem dX12_tellsNames_32 : decode cX12_tellsNames 32 = .ok (.iastore, 1) := by decide +kernel
theorem dX12_tellsNames_33 : decode cX12_tellsNames 33 = .ok (.aload_n 0, 1) := by decide +kernel
theorem dX12_tellsNames_34 : decode cX12_tellsNames 34 = .ok (.getfield 88, 3) := by decide +kernel
theorem dX12_tellsNames_37 : decode cX12_tellsNames 37 = .ok (.iconst 2, 1) := by decide +kernel
theorem dX12_tellsNames_38 : decode cX12_tellsNames 38 = .ok (.aload_n 0, 1) := by decide +kernel
theorem dX12_tellsNames_39 : decode cX12_tellsNames 39 = .ok (.aload_n 0, 1) := by decide +kernel
theorem dX12_tellsNames_40 : decode cX12_tellsNames 40 = .ok (.getfield 305, 3) := by decide +kernel
theorem dX12_tellsNames_43 : decode cX12_tellsNames 43 = .ok (.invokevirtual 387, 3) := by decide +kernel
theorem dX12_tellsNames_46 : decode cX12_tellsNames 46 = .ok (.iastore, 1) := by decide +kernel
theorem dX12_tellsNames_47 : decode cX12_tellsNames 47 = .ok (.aload_n 0, 1) := by decide +kernel
theorem dX12_tellsNames_48 : decode cX12_tellsNames 48 = .ok (.getfield 88, 3) := by decide +kernel
theorem dX12_tellsNames_51 : decode cX12_tellsNames 51 = .ok (.iconst 3, 1) := by decide +kernel
theorem dX12_tellsNames_52 : decode cX12_tellsNames 52 = .ok (.aload_n 0, 1) := by decide +kernel
theorem dX12_tellsNames_53 : decode cX12_tellsNames 53 = .ok (.aload_n 0, 1) := by decide +kernel
theorem dX12_tellsNames_54 : decode cX12_tellsNames 54 = .ok (.getfield 308, 3) := by decide +kernel
theorem dX12_tellsNames_57 : decode cX12_tellsNames 57 = .ok (.invokevirtual 387, 3) := by decide +kernel
theorem dX12_tellsNames_60 : decode cX12_tellsNames 60 = .ok (.iastore, 1) := by decide +kernel
theorem dX12_tellsNames_61 : decode cX12_tellsNames 61 = .ok (.aload_n 0, 1) := by decide +kernel
theorem dX12_tellsNames_62 : decode cX12_tellsNames 62 = .ok (.getfield 88, 3) := by decide +kernel
theorem dX12_tellsNames_65 : decode cX12_tellsNames 65 = .ok (.iconst 4, 1) := by decide +kernel
theorem dX12_tellsNames_66 : decode cX12_tellsNames 66 = .ok (.iload_n 2, 1) := by decide +kernel
theorem dX12_tellsNames_67 : decode cX12_tellsNames 67 = .ok (.bipush 10, 2) := by decide +kernel
theorem dX12_tellsNames_69 : decode cX12_tellsNames 69 = .ok (.idiv, 1) := by decide +kernel
theorem dX12_tellsNames_70 : decode cX12_tellsNames 70 = .ok (.iastore, 1) := by decide +kernel
theorem dX12_tellsNames_71 : decode cX12_tellsNames 71 = .ok (.aload_n 0, 1) := by decide +kernel
theorem dX12_tellsNames_72 : decode cX12_tellsNames 72 = .ok (.getfield 88, 3) := by decide +kernel
theorem dX12_tellsNames_75 : decode cX12_tellsNames 75 = .ok (.iconst 5, 1) := by decide +kernel
theorem dX12_tellsNames_76 : decode cX12_tellsNames 76 = .ok (.iload_n 2, 1) := by decide +kernel
theorem dX12_tellsNames_77 : decode cX12_tellsNames 77 = .ok (.bipush 10, 2) := by decide +kernel
theorem dX12_tellsNames_79 : decode cX12_tellsNames 79 = .ok (.irem, 1) := by decide +kernel
theorem dX12_tellsNames_80 : decode cX12_tellsNames 80 = .ok (.iastore, 1) := by decide +kernel
theorem dX12_tellsNames_81 : decode cX12_tellsNames 81 = .ok (.aload_n 0, 1) := by decide +kernel
theorem dX12_tellsNames_82 : decode cX12_tellsNames 82 = .ok (.getfield 88, 3) := by decide +kernel
theorem dX12_tellsNames_85 : decode cX12_tellsNames 85 = .ok (.bipush 6, 2) := by decide +kernel
theorem dX12_tellsNames_87 : decode cX12_tellsNames 87 = .ok (.iload_n 3, 1) := by decide +kernel
theorem dX12_tellsNames_88 : decode cX12_tellsNames 88 = .ok (.invokestatic 338, 3) := by decide +kernel
theorem dX12_tellsNames_91 : decode cX12_tellsNames 91 = .ok (.iastore, 1) := by decide +kernel
theorem dX12_tellsNames_92 : decode cX12_tellsNames 92 = .ok (.return_, 1) := by decide +kernel
theorem dX12_called_0 : decode cX12_called 0 = .ok (.aload_n 0, 1) := by decide +kernel
theorem dX12_called_1 : decode cX12_called 1 = .ok (.getfield 296, 3) := by decide +kernel
theorem dX12_called_4 : decode cX12_called 4 = .ok (.ifCond .eq 23, 3) := by decide +kernel
theorem dX12_called_7 : decode cX12_called 7 = .ok (.aload_n 0, 1) := by decide +kernel
theorem dX12_called_8 : decode cX12_called 8 = .ok (.iload_n 1, 1) := by decide +kernel
theorem dX12_called_9 : decode cX12_called 9 = .ok (.iload_n 2, 1) := by decide +kernel
theorem dX12_called_10 : decode cX12_called 10 = .ok (.iload_n 3, 1) := by decide +kernel
theorem dX12_called_11 : decode cX12_called 11 = .ok (.invokevirtual 373, 3) := by decide +kernel
theorem dX12_called_14 : decode cX12_called 14 = .ok (.ifCond .eq 13, 3) := by decide +kernel
theorem dX12_called_17 : decode cX12_called 17 = .ok (.iload 4, 2) := by decide +kernel
theorem dX12_called_19 : decode cX12_called 19 = .ok (.iconst 0, 1) := by decide +kernel
theorem dX12_called_20 : decode cX12_called 20 = .ok (.iconst 1, 1) := by decide +kernel
theorem dX12_called_21 : decode cX12_called 21 = .ok (.invokestatic 98, 3) := by decide +kernel
theorem dX12_called_24 : decode cX12_called 24 = .ok (.ifCond .ne 5, 3) := by decide +kernel
theorem dX12_called_27 : decode cX12_called 27 = .ok (.iconst (-1), 1) := by decide +kernel
theorem dX12_called_28 : decode cX12_called 28 = .ok (.ireturn, 1) := by decide +kernel
theorem dX12_called_29 : decode cX12_called 29 = .ok (.aload_n 0, 1) := by decide +kernel
theorem dX12_called_30 : decode cX12_called 30 = .ok (.iload_n 1, 1) := by decide +kernel
theorem dX12_called_31 : decode cX12_called 31 = .ok (.iload_n 2, 1) := by decide +kernel
theorem dX12_called_32 : decode cX12_called 32 = .ok (.iload_n 3, 1) := by decide +kernel
theorem dX12_called_33 : decode cX12_called 33 = .ok (.invokevirtual 457, 3) := by decide +kernel
theorem dX12_called_36 : decode cX12_called 36 = .ok (.iconst 0, 1) := by decide +kernel
theorem dX12_called_37 : decode cX12_called 37 = .ok (.istore 5, 2) := by decide +kernel
theorem dX12_called_39 : decode cX12_called 39 = .ok (.iconst 0, 1) := by decide +kernel
theorem dX12_called_40 : decode cX12_called 40 = .ok (.istore 6, 2) := by decide +kernel
theorem dX12_called_42 : decode cX12_called 42 = .ok (.iconst 1, 1) := by decide +kernel
theorem dX12_called_43 : decode cX12_called 43 = .ok (.istore 7, 2) := by decide +kernel
theorem dX12_called_45 : decode cX12_called 45 = .ok (.iconst 0, 1) := by decide +kernel
theorem dX12_called_46 : decode cX12_called 46 = .ok (.istore 8, 2) := by decide +kernel
theorem dX12_called_48 : decode cX12_called 48 = .ok (.iload 5, 2) := by decide +kernel
theorem dX12_called_50 : decode cX12_called 50 = .ok (.aload_n 0, 1) := by decide +kernel
theorem dX12_called_51 : decode cX12_called 51 = .ok (.getfield 296, 3) := by decide +kernel
theorem dX12_called_54 : decode cX12_called 54 = .ok (.if_icmp .ge 282, 3) := by decide +kernel
theorem dX12_called_57 : decode cX12_called 57 = .ok (.aload_n 0, 1) := by decide +kernel
theorem dX12_called_58 : decode cX12_called 58 = .ok (.getfield 64, 3) := by decide +kernel
theorem dX12_called_61 : decode cX12_called 61 = .ok (.iconst 2, 1) := by decide +kernel
theorem dX12_called_62 : decode cX12_called 62 = .ok (.iload 8, 2) := by decide +kernel
theorem dX12_called_64 : decode cX12_called 64 = .ok (.imul, 1) := by decide +kernel
theorem dX12_called_65 : decode cX12_called 65 = .ok (.iaload, 1) := by decide +kernel
theorem dX12_called_66 : decode cX12_called 66 = .ok (.istore 9, 2) := by decide +kernel
theorem dX12_called_68 : decode cX12_called 68 = .ok (.aload_n 0, 1) := by decide +kernel
theorem dX12_called_69 : decode cX12_called 69 = .ok (.getfield 64, 3) := by decide +kernel
theorem dX12_called_72 : decode cX12_called 72 = .ok (.iconst 2, 1) := by decide +kernel
theorem dX12_called_73 : decode cX12_called 73 = .ok (.iload 8, 2) := by decide +kernel
theorem dX12_called_75 : decode cX12_called 75 = .ok (.imul, 1) := by decide +kernel
theorem dX12_called_76 : decode cX12_called 76 = .ok (.iconst 1, 1) := by decide +kernel
theorem dX12_called_77 : decode cX12_called 77 = .ok (.iadd, 1) := by decide +kernel
theorem dX12_called_78 : decode cX12_called 78 = .ok (.iaload, 1) := by decide +kernel
theorem dX12_called_79 : decode cX12_called 79 = .ok (.istore 10, 2) := by decide +kernel
theorem dX12_called_81 : decode cX12_called 81 = .ok (.iload 9, 2) := by decide +kernel
theorem dX12_called_83 : decode cX12_called 83 = .ok (.bipush 7, 2) := by decide +kernel
theorem dX12_called_85 : decode cX12_called 85 = .ok (.if_icmp .ne 33, 3) := by decide +kernel
theorem dX12_called_88 : decode cX12_called 88 = .ok (.iload 7, 2) := by decide +kernel
theorem dX12_called_90 : decode cX12_called 90 = .ok (.ifCond .eq 16, 3) := by decide +kernel
theorem dX12_called_93 : decode cX12_called 93 = .ok (.iload 4, 2) := by decide +kernel
theorem dX12_called_95 : decode cX12_called 95 = .ok (.ifCond .ne 8, 3) := by decide +kernel
theorem dX12_called_98 : decode cX12_called 98 = .ok (.iload 10, 2) := by decide +kernel
theorem dX12_called_100 : decode cX12_called 100 = .ok (.goto 5, 3) := by decide +kernel
theorem dX12_called_103 : decode cX12_called 103 = .ok (.iload 5, 2) := by decide +kernel
theorem dX12_called_105 : decode cX12_called 105 = .ok (.ireturn, 1) := by decide +kernel
theorem dX12_called_106 : decode cX12_called 106 = .ok (.iinc 5 1, 3) := by decide +kernel
theorem dX12_called_109 : decode cX12_called 109 = .ok (.iconst 1, 1) := by decide +kernel
theorem dX12_called_110 : decode cX12_called 110 = .ok (.istore 7, 2) := by decide +kernel
theorem dX12_called_112 : decode cX12_called 112 = .ok (.iconst 0, 1) := by decide +kernel
theorem dX12_called_113 : decode cX12_called 113 = .ok (.istore 6, 2) := by decide +kernel
theorem dX12_called_115 : decode cX12_called 115 = .ok (.goto 215, 3) := by decide +kernel
theorem dX12_called_118 : decode cX12_called 118 = .ok (.iload 9, 2) := by decide +kernel
theorem dX12_called_120 : decode cX12_called 120 = .ok (.ifCond .eq 9, 3) := by decide +kernel
theorem dX12_called_123 : decode cX12_called 123 = .ok (.iload 9, 2) := by decide +kernel
theorem dX12_called_125 : decode cX12_called 125 = .ok (.iconst 1, 1) := by decide +kernel
theorem dX12_called_126 : decode cX12_called 126 = .ok (.if_icmp .ne 33, 3) := by decide +kernel
theorem dX12_called_129 : decode cX12_called 129 = .ok (.aload_n 0, 1) := by decide +kernel
theorem dX12_called_130 : decode cX12_called 130 = .ok (.getfield 91, 3) := by decide +kernel
theorem dX12_called_133 : decode cX12_called 133 = .ok (.iload 6, 2) := by decide +kernel
theorem dX12_called_135 : decode cX12_called 135 = .ok (.iload 9, 2) := by decide +kernel
theorem dX12_called_137 : decode cX12_called 137 = .ok (.ifCond .ne 8, 3) := by decide +kernel
theorem dX12_called_140 : decode cX12_called 140 = .ok (.iload 10, 2) := by decide +kernel
theorem dX12_called_142 : decode cX12_called 142 = .ok (.goto 10, 3) := by decide +kernel
theorem dX12_called_145 : decode cX12_called 145 = .ok (.aload_n 0, 1) := by decide +kernel
theorem dX12_called_146 : decode cX12_called 146 = .ok (.getfield 88, 3) := by decide +kernel
theorem dX12_called_149 : decode cX12_called 149 = .ok (.iload 10, 2) := by decide +kernel
theorem dX12_called_151 : decode cX12_called 151 = .ok (.iaload, 1) := by decide +kernel
theorem dX12_called_152 : decode cX12_called 152 = .ok (.iastore, 1) := by decide +kernel
theorem dX12_called_153 : decode cX12_called 153 = .ok (.iinc 6 1, 3) := by decide +kernel
theorem dX12_called_156 : decode cX12_called 156 = .ok (.goto 174, 3) := by decide +kernel
theorem dX12_called_159 : decode cX12_called 159 = .ok (.aload_n 0, 1) := by decide +kernel
theorem dX12_called_160 : decode cX12_called 160 = .ok (.getfield 91, 3) := by decide +kernel
theorem dX12_called_163 : decode cX12_called 163 = .ok (.iload 6, 2) := by decide +kernel
theorem dX12_called_165 : decode cX12_called 165 = .ok (.iconst 2, 1) := by decide +kernel
theorem dX12_called_166 : decode cX12_called 166 = .ok (.isub, 1) := by decide +kernel
theorem dX12_called_167 : decode cX12_called 167 = .ok (.iaload, 1) := by decide +kernel
theorem dX12_called_168 : decode cX12_called 168 = .ok (.istore 11, 2) := by decide +kernel
theorem dX12_called_170 : decode cX12_called 170 = .ok (.aload_n 0, 1) := by decide +kernel
theorem dX12_called_171 : decode cX12_called 171 = .ok (.getfield 91, 3) := by decide +kernel
theorem dX12_called_174 : decode cX12_called 174 = .ok (.iload 6, 2) := by decide +kernel
theorem dX12_called_176 : decode cX12_called 176 = .ok (.iconst 1, 1) := by decide +kernel
theorem dX12_called_177 : decode cX12_called 177 = .ok (.isub, 1) := by decide +kernel
theorem dX12_called_178 : decode cX12_called 178 = .ok (.iaload, 1) := by decide +kernel
theorem dX12_called_179 : decode cX12_called 179 = .ok (.istore 12, 2) := by decide +kernel
theorem dX12_called_181 : decode cX12_called 181 = .ok (.iload 6, 2) := by decide +kernel
theorem dX12_called_183 : decode cX12_called 183 = .ok (.iload 9, 2) := by decide +kernel
theorem dX12_called_185 : decode cX12_called 185 = .ok (.iconst 5, 1) := by decide +kernel
theorem dX12_called_186 : decode cX12_called 186 = .ok (.if_icmp .eq 10, 3) := by decide +kernel
theorem dX12_called_189 : decode cX12_called 189 = .ok (.iload 9, 2) := by decide +kernel
theorem dX12_called_191 : decode cX12_called 191 = .ok (.bipush 6, 2) := by decide +kernel
theorem dX12_called_193 : decode cX12_called 193 = .ok (.if_icmp .ne 7, 3) := by decide +kernel
theorem dX12_called_196 : decode cX12_called 196 = .ok (.iconst 2, 1) := by decide +kernel
theorem dX12_called_197 : decode cX12_called 197 = .ok (.goto 4, 3) := by decide +kernel
theorem dX12_called_200 : decode cX12_called 200 = .ok (.iconst 1, 1) := by decide +kernel
theorem dX12_called_201 : decode cX12_called 201 = .ok (.isub, 1) := by decide +kernel
theorem dX12_called_202 : decode cX12_called 202 = .ok (.istore 6, 2) := by decide +kernel
theorem dX12_called_204 : decode cX12_called 204 = .ok (.iload 9, 2) := by decide +kernel
theorem dX12_called_206 : decode cX12_called 206 = .ok (.iconst 5, 1) := by decide +kernel
theorem dX12_called_207 : decode cX12_called 207 = .ok (.if_icmp .ne 22, 3) := by decide +kernel
theorem dX12_called_210 : decode cX12_called 210 = .ok (.iload 7, 2) := by decide +kernel
theorem dX12_called_212 : decode cX12_called 212 = .ok (.ifCond .eq 14, 3) := by decide +kernel
theorem dX12_called_215 : decode cX12_called 215 = .ok (.iload 11, 2) := by decide +kernel
theorem dX12_called_217 : decode cX12_called 217 = .ok (.iload 12, 2) := by decide +kernel
theorem dX12_called_219 : decode cX12_called 219 = .ok (.if_icmp .ge 7, 3) := by decide +kernel
theorem dX12_called_222 : decode cX12_called 222 = .ok (.iconst 1, 1) := by decide +kernel
theorem dX12_called_223 : decode cX12_called 223 = .ok (.goto 4, 3) := by decide +kernel
theorem dX12_called_226 : decode cX12_called 226 = .ok (.iconst 0, 1) := by decide +kernel
theorem dX12_called_227 : decode cX12_called 227 = .ok (.istore 7, 2) := by decide +kernel
theorem dX12_called_229 : decode cX12_called 229 = .ok (.iload 9, 2) := by decide +kernel
theorem dX12_called_231 : decode cX12_called 231 = .ok (.bipush 6, 2) := by decide +kernel
theorem dX12_called_233 : decode cX12_called 233 = .ok (.if_icmp .ne 22, 3) := by decide +kernel
theorem dX12_called_236 : decode cX12_called 236 = .ok (.iload 7, 2) := by decide +kernel
theorem dX12_called_238 : decode cX12_called 238 = .ok (.ifCond .eq 14, 3) := by decide +kernel
theorem dX12_called_241 : decode cX12_called 241 = .ok (.iload 11, 2) := by decide +kernel
theorem dX12_called_243 : decode cX12_called 243 = .ok (.iload 12, 2) := by decide +kernel
theorem dX12_called_245 : decode cX12_called 245 = .ok (.if_icmp .ne 7, 3) := by decide +kernel
theorem dX12_called_248 : decode cX12_called 248 = .ok (.iconst 1, 1) := by decide +kernel
theorem dX12_called_249 : decode cX12_called 249 = .ok (.goto 4, 3) := by decide +kernel
theorem dX12_called_252 : decode cX12_called 252 = .ok (.iconst 0, 1) := by decide +kernel
theorem dX12_called_253 : decode cX12_called 253 = .ok (.istore 7, 2) := by decide +kernel
theorem dX12_called_255 : decode cX12_called 255 = .ok (.iload 9, 2) := by decide +kernel
theorem dX12_called_257 : decode cX12_called 257 = .ok (.iconst 2, 1) := by decide +kernel
theorem dX12_called_258 : decode cX12_called 258 = .ok (.if_icmp .ne 22, 3) := by decide +kernel
theorem dX12_called_261 : decode cX12_called 261 = .ok (.aload_n 0, 1) := by decide +kernel
theorem dX12_called_262 : decode cX12_called 262 = .ok (.getfield 91, 3) := by decide +kernel
theorem dX12_called_265 : decode cX12_called 265 = .ok (.iload 6, 2) := by decide +kernel
theorem dX12_called_267 : decode cX12_called 267 = .ok (.iconst 1, 1) := by decide +kernel
theorem dX12_called_268 : decode cX12_called 268 = .ok (.isub, 1) := by decide +kernel
theorem dX12_called_269 : decode cX12_called 269 = .ok (.iload 11, 2) := by decide +kernel
theorem dX12_called_271 : decode cX12_called 271 = .ok (.i2l, 1) := by decide +kernel
theorem dX12_called_272 : decode cX12_called 272 = .ok (.iload 12, 2) := by decide +kernel
theorem dX12_called_274 : decode cX12_called 274 = .ok (.i2l, 1) := by decide +kernel
theorem dX12_called_275 : decode cX12_called 275 = .ok (.ladd, 1) := by decide +kernel
theorem dX12_called_276 : decode cX12_called 276 = .ok (.invokestatic 460, 3) := by decide +kernel
theorem dX12_called_279 : decode cX12_called 279 = .ok (.iastore, 1) := by decide +kernel
theorem dX12_called_280 : decode cX12_called 280 = .ok (.iload 9, 2) := by decide +kernel
theorem dX12_called_282 : decode cX12_called 282 = .ok (.iconst 3, 1) := by decide +kernel
theorem dX12_called_283 : decode cX12_called 283 = .ok (.if_icmp .ne 22, 3) := by decide +kernel
theorem dX12_called_286 : decode cX12_called 286 = .ok (.aload_n 0, 1) := by decide +kernel
theorem dX12_called_287 : decode cX12_called 287 = .ok (.getfield 91, 3) := by decide +kernel
theorem dX12_called_290 : decode cX12_called 290 = .ok (.iload 6, 2) := by decide +kernel
theorem dX12_called_292 : decode cX12_called 292 = .ok (.iconst 1, 1) := by decide +kernel
theorem dX12_called_293 : decode cX12_called 293 = .ok (.isub, 1) := by decide +kernel
theorem dX12_called_294 : decode cX12_called 294 = .ok (.iload 11, 2) := by decide +kernel
theorem dX12_called_296 : decode cX12_called 296 = .ok (.i2l, 1) := by decide +kernel
theorem dX12_called_297 : decode cX12_called 297 = .ok (.iload 12, 2) := by decide +kernel
theorem dX12_called_299 : decode cX12_called 299 = .ok (.i2l, 1) := by decide +kernel
theorem dX12_called_300 : decode cX12_called 300 = .ok (.lsub, 1) := by decide +kernel
theorem dX12_called_301 : decode cX12_called 301 = .ok (.invokestatic 460, 3) := by decide +kernel
theorem dX12_called_304 : decode cX12_called 304 = .ok (.iastore, 1) := by decide +kernel
theorem dX12_called_305 : decode cX12_called 305 = .ok (.iload 9, 2) := by decide +kernel
theorem dX12_called_307 : decode cX12_called 307 = .ok (.iconst 4, 1) := by decide +kernel
theorem dX12_called_308 : decode cX12_called 308 = .ok (.if_icmp .ne 22, 3) := by decide +kernel
theorem dX12_called_311 : decode cX12_called 311 = .ok (.aload_n 0, 1) := by decide +kernel
theorem dX12_called_312 : decode cX12_called 312 = .ok (.getfield 91, 3) := by decide +kernel
theorem dX12_called_315 : decode cX12_called 315 = .ok (.iload 6, 2) := by decide +kernel
theorem dX12_called_317 : decode cX12_called 317 = .ok (.iconst 1, 1) := by decide +kernel
theorem dX12_called_318 : decode cX12_called 318 = .ok (.isub, 1) := by decide +kernel
theorem dX12_called_319 : decode cX12_called 319 = .ok (.iload 11, 2) := by decide +kernel
theorem dX12_called_321 : decode cX12_called 321 = .ok (.i2l, 1) := by decide +kernel
theorem dX12_called_322 : decode cX12_called 322 = .ok (.iload 12, 2) := by decide +kernel
theorem dX12_called_324 : decode cX12_called 324 = .ok (.i2l, 1) := by decide +kernel
theorem dX12_called_325 : decode cX12_called 325 = .ok (.lmul, 1) := by decide +kernel
theorem dX12_called_326 : decode cX12_called 326 = .ok (.invokestatic 460, 3) := by decide +kernel
theorem dX12_called_329 : decode cX12_called 329 = .ok (.iastore, 1) := by decide +kernel
theorem dX12_called_330 : decode cX12_called 330 = .ok (.iinc 8 1, 3) := by decide +kernel
theorem dX12_called_333 : decode cX12_called 333 = .ok (.goto (-285), 3) := by decide +kernel
theorem dX12_called_336 : decode cX12_called 336 = .ok (.iconst (-1), 1) := by decide +kernel
theorem dX12_called_337 : decode cX12_called 337 = .ok (.ireturn, 1) := by decide +kernel
theorem dX12_draws_0 : decode cX12_draws 0 = .ok (.aload_n 0, 1) := by decide +kernel
theorem dX12_draws_1 : decode cX12_draws 1 = .ok (.aload_n 0, 1) := by decide +kernel
theorem dX12_draws_2 : decode cX12_draws 2 = .ok (.getfield 464, 3) := by decide +kernel
theorem dX12_draws_5 : decode cX12_draws 5 = .ok (.ldc2_w 467, 3) := by decide +kernel
theorem dX12_draws_8 : decode cX12_draws 8 = .ok (.lmul, 1) := by decide +kernel
theorem dX12_draws_9 : decode cX12_draws 9 = .ok (.ldc2_w 469, 3) := by decide +kernel
theorem dX12_draws_12 : decode cX12_draws 12 = .ok (.ladd, 1) := by decide +kernel
theorem dX12_draws_13 : decode cX12_draws 13 = .ok (.ldc2_w 471, 3) := by decide +kernel
theorem dX12_draws_16 : decode cX12_draws 16 = .ok (.land, 1) := by decide +kernel
theorem dX12_draws_17 : decode cX12_draws 17 = .ok (.putfield 464, 3) := by decide +kernel
theorem dX12_draws_20 : decode cX12_draws 20 = .ok (.aload_n 0, 1) := by decide +kernel
theorem dX12_draws_21 : decode cX12_draws 21 = .ok (.getfield 464, 3) := by decide +kernel
theorem dX12_draws_24 : decode cX12_draws 24 = .ok (.ldc2_w 473, 3) := by decide +kernel
theorem dX12_draws_27 : decode cX12_draws 27 = .ok (.ldiv, 1) := by decide +kernel
theorem dX12_draws_28 : decode cX12_draws 28 = .ok (.lload_n 1, 1) := by decide +kernel
theorem dX12_draws_29 : decode cX12_draws 29 = .ok (.lrem, 1) := by decide +kernel
theorem dX12_draws_30 : decode cX12_draws 30 = .ok (.l2i, 1) := by decide +kernel
theorem dX12_draws_31 : decode cX12_draws 31 = .ok (.ireturn, 1) := by decide +kernel
theorem dX12_draw_0 : decode cX12_draw 0 = .ok (.iload_n 1, 1) := by decide +kernel
theorem dX12_draw_1 : decode cX12_draw 1 = .ok (.invokestatic 370, 3) := by decide +kernel
theorem dX12_draw_4 : decode cX12_draw 4 = .ok (.ifCond .eq 45, 3) := by decide +kernel
theorem dX12_draw_7 : decode cX12_draw 7 = .ok (.aload_n 0, 1) := by decide +kernel
theorem dX12_draw_8 : decode cX12_draw 8 = .ok (.iload_n 2, 1) := by decide +kernel
theorem dX12_draw_9 : decode cX12_draw 9 = .ok (.invokevirtual 302, 3) := by decide +kernel
theorem dX12_draw_12 : decode cX12_draw 12 = .ok (.ifCond .eq 37, 3) := by decide +kernel
theorem dX12_draw_15 : decode cX12_draw 15 = .ok (.iload_n 3, 1) := by decide +kernel
theorem dX12_draw_16 : decode cX12_draw 16 = .ok (.iconst 0, 1) := by decide +kernel
theorem dX12_draw_17 : decode cX12_draw 17 = .ok (.ldc_w 475, 3) := by decide +kernel
theorem dX12_draw_20 : decode cX12_draw 20 = .ok (.invokestatic 98, 3) := by decide +kernel
theorem dX12_draw_23 : decode cX12_draw 23 = .ok (.ifCond .eq 26, 3) := by decide +kernel
theorem dX12_draw_26 : decode cX12_draw 26 = .ok (.iload 4, 2) := by decide +kernel
theorem dX12_draw_28 : decode cX12_draw 28 = .ok (.iconst 1, 1) := by decide +kernel
theorem dX12_draw_29 : decode cX12_draw 29 = .ok (.bipush 20, 2) := by decide +kernel
theorem dX12_draw_31 : decode cX12_draw 31 = .ok (.invokestatic 98, 3) := by decide +kernel
theorem dX12_draw_34 : decode cX12_draw 34 = .ok (.ifCond .eq 15, 3) := by decide +kernel
theorem dX12_draw_37 : decode cX12_draw 37 = .ok (.aload_n 0, 1) := by decide +kernel
theorem dX12_draw_38 : decode cX12_draw 38 = .ok (.getfield 235, 3) := by decide +kernel
theorem dX12_draw_41 : decode cX12_draw 41 = .ok (.iload 4, 2) := by decide +kernel
theorem dX12_draw_43 : decode cX12_draw 43 = .ok (.iadd, 1) := by decide +kernel
theorem dX12_draw_44 : decode cX12_draw 44 = .ok (.bipush 60, 2) := by decide +kernel
theorem dX12_draw_46 : decode cX12_draw 46 = .ok (.if_icmp .le 5, 3) := by decide +kernel
theorem dX12_draw_49 : decode cX12_draw 49 = .ok (.iconst (-1), 1) := by decide +kernel
theorem dX12_draw_50 : decode cX12_draw 50 = .ok (.ireturn, 1) := by decide +kernel
theorem dX12_draw_51 : decode cX12_draw 51 = .ok (.aload_n 0, 1) := by decide +kernel
theorem dX12_draw_52 : decode cX12_draw 52 = .ok (.iload_n 3, 1) := by decide +kernel
theorem dX12_draw_53 : decode cX12_draw 53 = .ok (.i2l, 1) := by decide +kernel
theorem dX12_draw_54 : decode cX12_draw 54 = .ok (.putfield 464, 3) := by decide +kernel
theorem dX12_draw_57 : decode cX12_draw 57 = .ok (.iconst 0, 1) := by decide +kernel
theorem dX12_draw_58 : decode cX12_draw 58 = .ok (.istore 5, 2) := by decide +kernel
theorem dX12_draw_60 : decode cX12_draw 60 = .ok (.iload 5, 2) := by decide +kernel
theorem dX12_draw_62 : decode cX12_draw 62 = .ok (.iload 4, 2) := by decide +kernel
theorem dX12_draw_64 : decode cX12_draw 64 = .ok (.if_icmp .ge 191, 3) := by decide +kernel
theorem dX12_draw_67 : decode cX12_draw 67 = .ok (.aload_n 0, 1) := by decide +kernel
theorem dX12_draw_68 : decode cX12_draw 68 = .ok (.aload_n 0, 1) := by decide +kernel
theorem dX12_draw_69 : decode cX12_draw 69 = .ok (.getfield 220, 3) := by decide +kernel
theorem dX12_draw_72 : decode cX12_draw 72 = .ok (.i2l, 1) := by decide +kernel
theorem dX12_draw_73 : decode cX12_draw 73 = .ok (.invokevirtual 476, 3) := by decide +kernel
theorem dX12_draw_76 : decode cX12_draw 76 = .ok (.istore 6, 2) := by decide +kernel
theorem dX12_draw_78 : decode cX12_draw 78 = .ok (.aload_n 0, 1) := by decide +kernel
theorem dX12_draw_79 : decode cX12_draw 79 = .ok (.aload_n 0, 1) := by decide +kernel
theorem dX12_draw_80 : decode cX12_draw 80 = .ok (.getfield 220, 3) := by decide +kernel
theorem dX12_draw_83 : decode cX12_draw 83 = .ok (.i2l, 1) := by decide +kernel
theorem dX12_draw_84 : decode cX12_draw 84 = .ok (.invokevirtual 476, 3) := by decide +kernel
theorem dX12_draw_87 : decode cX12_draw 87 = .ok (.istore 7, 2) := by decide +kernel
theorem dX12_draw_89 : decode cX12_draw 89 = .ok (.aload_n 0, 1) := by decide +kernel
theorem dX12_draw_90 : decode cX12_draw 90 = .ok (.ldc2_w 124, 3) := by decide +kernel
theorem dX12_draw_93 : decode cX12_draw 93 = .ok (.invokevirtual 476, 3) := by decide +kernel
theorem dX12_draw_96 : decode cX12_draw 96 = .ok (.istore 8, 2) := by decide +kernel
theorem dX12_draw_98 : decode cX12_draw 98 = .ok (.aload_n 0, 1) := by decide +kernel
theorem dX12_draw_99 : decode cX12_draw 99 = .ok (.ldc2_w 124, 3) := by decide +kernel
theorem dX12_draw_102 : decode cX12_draw 102 = .ok (.invokevirtual 476, 3) := by decide +kernel
theorem dX12_draw_105 : decode cX12_draw 105 = .ok (.istore 9, 2) := by decide +kernel
theorem dX12_draw_107 : decode cX12_draw 107 = .ok (.aload_n 0, 1) := by decide +kernel
theorem dX12_draw_108 : decode cX12_draw 108 = .ok (.ldc2_w 479, 3) := by decide +kernel
theorem dX12_draw_111 : decode cX12_draw 111 = .ok (.invokevirtual 476, 3) := by decide +kernel
theorem dX12_draw_114 : decode cX12_draw 114 = .ok (.bipush 99, 2) := by decide +kernel
theorem dX12_draw_116 : decode cX12_draw 116 = .ok (.isub, 1) := by decide +kernel
theorem dX12_draw_117 : decode cX12_draw 117 = .ok (.istore 10, 2) := by decide +kernel
theorem dX12_draw_119 : decode cX12_draw 119 = .ok (.bipush 100, 2) := by decide +kernel
theorem dX12_draw_121 : decode cX12_draw 121 = .ok (.iload_n 2, 1) := by decide +kernel
theorem dX12_draw_122 : decode cX12_draw 122 = .ok (.imul, 1) := by decide +kernel
theorem dX12_draw_123 : decode cX12_draw 123 = .ok (.bipush 10, 2) := by decide +kernel
theorem dX12_draw_125 : decode cX12_draw 125 = .ok (.iload 6, 2) := by decide +kernel
theorem dX12_draw_127 : decode cX12_draw 127 = .ok (.imul, 1) := by decide +kernel
theorem dX12_draw_128 : decode cX12_draw 128 = .ok (.iadd, 1) := by decide +kernel
theorem dX12_draw_129 : decode cX12_draw 129 = .ok (.iload 7, 2) := by decide +kernel
theorem dX12_draw_131 : decode cX12_draw 131 = .ok (.iadd, 1) := by decide +kernel
theorem dX12_draw_132 : decode cX12_draw 132 = .ok (.istore 11, 2) := by decide +kernel
theorem dX12_draw_134 : decode cX12_draw 134 = .ok (.aload_n 0, 1) := by decide +kernel
theorem dX12_draw_135 : decode cX12_draw 135 = .ok (.iload 11, 2) := by decide +kernel
theorem dX12_draw_137 : decode cX12_draw 137 = .ok (.bipush 10, 2) := by decide +kernel
theorem dX12_draw_139 : decode cX12_draw 139 = .ok (.iload 8, 2) := by decide +kernel
theorem dX12_draw_141 : decode cX12_draw 141 = .ok (.imul, 1) := by decide +kernel
theorem dX12_draw_142 : decode cX12_draw 142 = .ok (.iload 9, 2) := by decide +kernel
theorem dX12_draw_144 : decode cX12_draw 144 = .ok (.iadd, 1) := by decide +kernel
theorem dX12_draw_145 : decode cX12_draw 145 = .ok (.iload 10, 2) := by decide +kernel
theorem dX12_draw_147 : decode cX12_draw 147 = .ok (.invokevirtual 376, 3) := by decide +kernel
theorem dX12_draw_150 : decode cX12_draw 150 = .ok (.aload_n 0, 1) := by decide +kernel
theorem dX12_draw_151 : decode cX12_draw 151 = .ok (.iload_n 1, 1) := by decide +kernel
theorem dX12_draw_152 : decode cX12_draw 152 = .ok (.invokevirtual 380, 3) := by decide +kernel
theorem dX12_draw_155 : decode cX12_draw 155 = .ok (.aload_n 0, 1) := by decide +kernel
theorem dX12_draw_156 : decode cX12_draw 156 = .ok (.aload_n 0, 1) := by decide +kernel
theorem dX12_draw_157 : decode cX12_draw 157 = .ok (.getfield 362, 3) := by decide +kernel
theorem dX12_draw_160 : decode cX12_draw 160 = .ok (.invokevirtual 476, 3) := by decide +kernel
theorem dX12_draw_163 : decode cX12_draw 163 = .ok (.i2l, 1) := by decide +kernel
theorem dX12_draw_164 : decode cX12_draw 164 = .ok (.lstore 12, 2) := by decide +kernel
theorem dX12_draw_166 : decode cX12_draw 166 = .ok (.iconst 0, 1) := by decide +kernel
theorem dX12_draw_167 : decode cX12_draw 167 = .ok (.istore 14, 2) := by decide +kernel
theorem dX12_draw_169 : decode cX12_draw 169 = .ok (.lload 12, 2) := by decide +kernel
theorem dX12_draw_171 : decode cX12_draw 171 = .ok (.aload_n 0, 1) := by decide +kernel
theorem dX12_draw_172 : decode cX12_draw 172 = .ok (.getfield 76, 3) := by decide +kernel
theorem dX12_draw_175 : decode cX12_draw 175 = .ok (.iload 14, 2) := by decide +kernel
theorem dX12_draw_177 : decode cX12_draw 177 = .ok (.laload, 1) := by decide +kernel
theorem dX12_draw_178 : decode cX12_draw 178 = .ok (.lcmp, 1) := by decide +kernel
theorem dX12_draw_179 : decode cX12_draw 179 = .ok (.ifCond .lt 21, 3) := by decide +kernel
theorem dX12_draw_182 : decode cX12_draw 182 = .ok (.lload 12, 2) := by decide +kernel
theorem dX12_draw_184 : decode cX12_draw 184 = .ok (.aload_n 0, 1) := by decide +kernel
theorem dX12_draw_185 : decode cX12_draw 185 = .ok (.getfield 76, 3) := by decide +kernel
theorem dX12_draw_188 : decode cX12_draw 188 = .ok (.iload 14, 2) := by decide +kernel
theorem dX12_draw_190 : decode cX12_draw 190 = .ok (.laload, 1) := by decide +kernel
theorem dX12_draw_191 : decode cX12_draw 191 = .ok (.lsub, 1) := by decide +kernel
theorem dX12_draw_192 : decode cX12_draw 192 = .ok (.lstore 12, 2) := by decide +kernel
theorem dX12_draw_194 : decode cX12_draw 194 = .ok (.iinc 14 1, 3) := by decide +kernel
theorem dX12_draw_197 : decode cX12_draw 197 = .ok (.goto (-28), 3) := by decide +kernel
theorem dX12_draw_200 : decode cX12_draw 200 = .ok (.aload_n 0, 1) := by decide +kernel
theorem dX12_draw_201 : decode cX12_draw 201 = .ok (.ldc2_w 365, 3) := by decide +kernel
theorem dX12_draw_204 : decode cX12_draw 204 = .ok (.invokevirtual 476, 3) := by decide +kernel
theorem dX12_draw_207 : decode cX12_draw 207 = .ok (.aload_n 0, 1) := by decide +kernel
theorem dX12_draw_208 : decode cX12_draw 208 = .ok (.invokevirtual 396, 3) := by decide +kernel
theorem dX12_draw_211 : decode cX12_draw 211 = .ok (.if_icmp .ge 7, 3) := by decide +kernel
theorem dX12_draw_214 : decode cX12_draw 214 = .ok (.iconst 1, 1) := by decide +kernel
theorem dX12_draw_215 : decode cX12_draw 215 = .ok (.goto 4, 3) := by decide +kernel
theorem dX12_draw_218 : decode cX12_draw 218 = .ok (.iconst 0, 1) := by decide +kernel
theorem dX12_draw_219 : decode cX12_draw 219 = .ok (.istore 15, 2) := by decide +kernel
theorem dX12_draw_221 : decode cX12_draw 221 = .ok (.aload_n 0, 1) := by decide +kernel
theorem dX12_draw_222 : decode cX12_draw 222 = .ok (.iload 11, 2) := by decide +kernel
theorem dX12_draw_224 : decode cX12_draw 224 = .ok (.bipush 10, 2) := by decide +kernel
theorem dX12_draw_226 : decode cX12_draw 226 = .ok (.iload 8, 2) := by decide +kernel
theorem dX12_draw_228 : decode cX12_draw 228 = .ok (.imul, 1) := by decide +kernel
theorem dX12_draw_229 : decode cX12_draw 229 = .ok (.iload 9, 2) := by decide +kernel
theorem dX12_draw_231 : decode cX12_draw 231 = .ok (.iadd, 1) := by decide +kernel
theorem dX12_draw_232 : decode cX12_draw 232 = .ok (.iload 10, 2) := by decide +kernel
theorem dX12_draw_234 : decode cX12_draw 234 = .ok (.iload 14, 2) := by decide +kernel
theorem dX12_draw_236 : decode cX12_draw 236 = .ok (.iload 15, 2) := by decide +kernel
theorem dX12_draw_238 : decode cX12_draw 238 = .ok (.ifCond .eq 7, 3) := by decide +kernel
theorem dX12_draw_241 : decode cX12_draw 241 = .ok (.iconst 1, 1) := by decide +kernel
theorem dX12_draw_242 : decode cX12_draw 242 = .ok (.goto 4, 3) := by decide +kernel
theorem dX12_draw_245 : decode cX12_draw 245 = .ok (.iconst 0, 1) := by decide +kernel
theorem dX12_draw_246 : decode cX12_draw 246 = .ok (.invokevirtual 399, 3) := by decide +kernel
theorem dX12_draw_249 : decode cX12_draw 249 = .ok (.iinc 5 1, 3) := by decide +kernel
theorem dX12_draw_252 : decode cX12_draw 252 = .ok (.goto (-192), 3) := by decide +kernel
theorem dX12_draw_255 : decode cX12_draw 255 = .ok (.aload_n 0, 1) := by decide +kernel
theorem dX12_draw_256 : decode cX12_draw 256 = .ok (.getfield 235, 3) := by decide +kernel
theorem dX12_draw_259 : decode cX12_draw 259 = .ok (.ireturn, 1) := by decide +kernel
theorem dX12_image_0 : decode cX12_image 0 = .ok (.aload_n 0, 1) := by decide +kernel
theorem dX12_image_1 : decode cX12_image 1 = .ok (.getfield 216, 3) := by decide +kernel
theorem dX12_image_4 : decode cX12_image 4 = .ok (.ifCond .eq 12, 3) := by decide +kernel
theorem dX12_image_7 : decode cX12_image 7 = .ok (.iload_n 1, 1) := by decide +kernel
theorem dX12_image_8 : decode cX12_image 8 = .ok (.iconst 0, 1) := by decide +kernel
theorem dX12_image_9 : decode cX12_image 9 = .ok (.iconst 2, 1) := by decide +kernel
theorem dX12_image_10 : decode cX12_image 10 = .ok (.invokestatic 98, 3) := by decide +kernel
theorem dX12_image_13 : decode cX12_image 13 = .ok (.ifCond .ne 5, 3) := by decide +kernel
theorem dX12_image_16 : decode cX12_image 16 = .ok (.iconst 0, 1) := by decide +kernel
theorem dX12_image_17 : decode cX12_image 17 = .ok (.ireturn, 1) := by decide +kernel
theorem dX12_image_18 : decode cX12_image 18 = .ok (.aload_n 0, 1) := by decide +kernel
theorem dX12_image_19 : decode cX12_image 19 = .ok (.getfield 46, 3) := by decide +kernel
theorem dX12_image_22 : decode cX12_image 22 = .ok (.iload_n 1, 1) := by decide +kernel
theorem dX12_image_23 : decode cX12_image 23 = .ok (.iconst 1, 1) := by decide +kernel
theorem dX12_image_24 : decode cX12_image 24 = .ok (.bastore, 1) := by decide +kernel
theorem dX12_image_25 : decode cX12_image 25 = .ok (.aload_n 0, 1) := by decide +kernel
theorem dX12_image_26 : decode cX12_image 26 = .ok (.getfield 49, 3) := by decide +kernel
theorem dX12_image_29 : decode cX12_image 29 = .ok (.iload_n 1, 1) := by decide +kernel
theorem dX12_image_30 : decode cX12_image 30 = .ok (.aload_n 0, 1) := by decide +kernel
theorem dX12_image_31 : decode cX12_image 31 = .ok (.getfield 232, 3) := by decide +kernel
theorem dX12_image_34 : decode cX12_image 34 = .ok (.iastore, 1) := by decide +kernel
theorem dX12_image_35 : decode cX12_image 35 = .ok (.aload_n 0, 1) := by decide +kernel
theorem dX12_image_36 : decode cX12_image 36 = .ok (.getfield 55, 3) := by decide +kernel
theorem dX12_image_39 : decode cX12_image 39 = .ok (.iload_n 1, 1) := by decide +kernel
theorem dX12_image_40 : decode cX12_image 40 = .ok (.aload_n 0, 1) := by decide +kernel
theorem dX12_image_41 : decode cX12_image 41 = .ok (.getfield 235, 3) := by decide +kernel
theorem dX12_image_44 : decode cX12_image 44 = .ok (.iastore, 1) := by decide +kernel
theorem dX12_image_45 : decode cX12_image 45 = .ok (.iconst 0, 1) := by decide +kernel
theorem dX12_image_46 : decode cX12_image 46 = .ok (.istore_n 2, 1) := by decide +kernel
theorem dX12_image_47 : decode cX12_image 47 = .ok (.iload_n 2, 1) := by decide +kernel
theorem dX12_image_48 : decode cX12_image 48 = .ok (.bipush 40, 2) := by decide +kernel
theorem dX12_image_50 : decode cX12_image 50 = .ok (.if_icmp .ge 26, 3) := by decide +kernel
theorem dX12_image_53 : decode cX12_image 53 = .ok (.aload_n 0, 1) := by decide +kernel
theorem dX12_image_54 : decode cX12_image 54 = .ok (.getfield 52, 3) := by decide +kernel
theorem dX12_image_57 : decode cX12_image 57 = .ok (.bipush 40, 2) := by decide +kernel
theorem dX12_image_59 : decode cX12_image 59 = .ok (.iload_n 1, 1) := by decide +kernel
theorem dX12_image_60 : decode cX12_image 60 = .ok (.imul, 1) := by decide +kernel
theorem dX12_image_61 : decode cX12_image 61 = .ok (.iload_n 2, 1) := by decide +kernel
theorem dX12_image_62 : decode cX12_image 62 = .ok (.iadd, 1) := by decide +kernel
theorem dX12_image_63 : decode cX12_image 63 = .ok (.aload_n 0, 1) := by decide +kernel
theorem dX12_image_64 : decode cX12_image 64 = .ok (.getfield 40, 3) := by decide +kernel
theorem dX12_image_67 : decode cX12_image 67 = .ok (.iload_n 2, 1) := by decide +kernel
theorem dX12_image_68 : decode cX12_image 68 = .ok (.iaload, 1) := by decide +kernel
theorem dX12_image_69 : decode cX12_image 69 = .ok (.iastore, 1) := by decide +kernel
theorem dX12_image_70 : decode cX12_image 70 = .ok (.iinc 2 1, 3) := by decide +kernel
theorem dX12_image_73 : decode cX12_image 73 = .ok (.goto (-26), 3) := by decide +kernel
theorem dX12_image_76 : decode cX12_image 76 = .ok (.iconst 0, 1) := by decide +kernel
theorem dX12_image_77 : decode cX12_image 77 = .ok (.istore_n 2, 1) := by decide +kernel
theorem dX12_image_78 : decode cX12_image 78 = .ok (.iload_n 2, 1) := by decide +kernel
theorem dX12_image_79 : decode cX12_image 79 = .ok (.sipush 300, 3) := by decide +kernel
theorem dX12_image_82 : decode cX12_image 82 = .ok (.if_icmp .ge 27, 3) := by decide +kernel
theorem dX12_image_85 : decode cX12_image 85 = .ok (.aload_n 0, 1) := by decide +kernel
theorem dX12_image_86 : decode cX12_image 86 = .ok (.getfield 58, 3) := by decide +kernel
theorem dX12_image_89 : decode cX12_image 89 = .ok (.sipush 300, 3) := by decide +kernel
theorem dX12_image_92 : decode cX12_image 92 = .ok (.iload_n 1, 1) := by decide +kernel
theorem dX12_image_93 : decode cX12_image 93 = .ok (.imul, 1) := by decide +kernel
theorem dX12_image_94 : decode cX12_image 94 = .ok (.iload_n 2, 1) := by decide +kernel
theorem dX12_image_95 : decode cX12_image 95 = .ok (.iadd, 1) := by decide +kernel
theorem dX12_image_96 : decode cX12_image 96 = .ok (.aload_n 0, 1) := by decide +kernel
theorem dX12_image_97 : decode cX12_image 97 = .ok (.getfield 43, 3) := by decide +kernel
theorem dX12_image_100 : decode cX12_image 100 = .ok (.iload_n 2, 1) := by decide +kernel
theorem dX12_image_101 : decode cX12_image 101 = .ok (.iaload, 1) := by decide +kernel
theorem dX12_image_102 : decode cX12_image 102 = .ok (.iastore, 1) := by decide +kernel
theorem dX12_image_103 : decode cX12_image 103 = .ok (.iinc 2 1, 3) := by decide +kernel
theorem dX12_image_106 : decode cX12_image 106 = .ok (.goto (-28), 3) := by decide +kernel
theorem dX12_image_109 : decode cX12_image 109 = .ok (.iconst 1, 1) := by decide +kernel
theorem dX12_image_110 : decode cX12_image 110 = .ok (.ireturn, 1) := by decide +kernel
theorem dX12_back_0 : decode cX12_back 0 = .ok (.iload_n 1, 1) := by decide +kernel
theorem dX12_back_1 : decode cX12_back 1 = .ok (.iconst 0, 1) := by decide +kernel
theorem dX12_back_2 : decode cX12_back 2 = .ok (.iconst 2, 1) := by decide +kernel
theorem dX12_back_3 : decode cX12_back 3 = .ok (.invokestatic 98, 3) := by decide +kernel
theorem dX12_back_6 : decode cX12_back 6 = .ok (.ifCond .eq 12, 3) := by decide +kernel
theorem dX12_back_9 : decode cX12_back 9 = .ok (.aload_n 0, 1) := by decide +kernel
theorem dX12_back_10 : decode cX12_back 10 = .ok (.getfield 46, 3) := by decide +kernel
theorem dX12_back_13 : decode cX12_back 13 = .ok (.iload_n 1, 1) := by decide +kernel
theorem dX12_back_14 : decode cX12_back 14 = .ok (.baload, 1) := by decide +kernel
theorem dX12_back_15 : decode cX12_back 15 = .ok (.ifCond .ne 5, 3) := by decide +kernel
theorem dX12_back_18 : decode cX12_back 18 = .ok (.iconst 0, 1) := by decide +kernel
theorem dX12_back_19 : decode cX12_back 19 = .ok (.ireturn, 1) := by decide +kernel
theorem dX12_back_20 : decode cX12_back 20 = .ok (.aload_n 0, 1) := by decide +kernel
theorem dX12_back_21 : decode cX12_back 21 = .ok (.aload_n 0, 1) := by decide +kernel
theorem dX12_back_22 : decode cX12_back 22 = .ok (.getfield 49, 3) := by decide +kernel
theorem dX12_back_25 : decode cX12_back 25 = .ok (.iload_n 1, 1) := by decide +kernel
theorem dX12_back_26 : decode cX12_back 26 = .ok (.iaload, 1) := by decide +kernel
theorem dX12_back_27 : decode cX12_back 27 = .ok (.putfield 232, 3) := by decide +kernel
theorem dX12_back_30 : decode cX12_back 30 = .ok (.aload_n 0, 1) := by decide +kernel
theorem dX12_back_31 : decode cX12_back 31 = .ok (.aload_n 0, 1) := by decide +kernel
theorem dX12_back_32 : decode cX12_back 32 = .ok (.getfield 55, 3) := by decide +kernel
theorem dX12_back_35 : decode cX12_back 35 = .ok (.iload_n 1, 1) := by decide +kernel
theorem dX12_back_36 : decode cX12_back 36 = .ok (.iaload, 1) := by decide +kernel
theorem dX12_back_37 : decode cX12_back 37 = .ok (.putfield 235, 3) := by decide +kernel
theorem dX12_back_40 : decode cX12_back 40 = .ok (.iconst 0, 1) := by decide +kernel
theorem dX12_back_41 : decode cX12_back 41 = .ok (.istore_n 2, 1) := by decide +kernel
theorem dX12_back_42 : decode cX12_back 42 = .ok (.iload_n 2, 1) := by decide +kernel
theorem dX12_back_43 : decode cX12_back 43 = .ok (.bipush 40, 2) := by decide +kernel
theorem dX12_back_45 : decode cX12_back 45 = .ok (.if_icmp .ge 26, 3) := by decide +kernel
theorem dX12_back_48 : decode cX12_back 48 = .ok (.aload_n 0, 1) := by decide +kernel
theorem dX12_back_49 : decode cX12_back 49 = .ok (.getfield 40, 3) := by decide +kernel
theorem dX12_back_52 : decode cX12_back 52 = .ok (.iload_n 2, 1) := by decide +kernel
theorem dX12_back_53 : decode cX12_back 53 = .ok (.aload_n 0, 1) := by decide +kernel
theorem dX12_back_54 : decode cX12_back 54 = .ok (.getfield 52, 3) := by decide +kernel
theorem dX12_back_57 : decode cX12_back 57 = .ok (.bipush 40, 2) := by decide +kernel
theorem dX12_back_59 : decode cX12_back 59 = .ok (.iload_n 1, 1) := by decide +kernel
theorem dX12_back_60 : decode cX12_back 60 = .ok (.imul, 1) := by decide +kernel
theorem dX12_back_61 : decode cX12_back 61 = .ok (.iload_n 2, 1) := by decide +kernel
theorem dX12_back_62 : decode cX12_back 62 = .ok (.iadd, 1) := by decide +kernel
theorem dX12_back_63 : decode cX12_back 63 = .ok (.iaload, 1) := by decide +kernel
theorem dX12_back_64 : decode cX12_back 64 = .ok (.iastore, 1) := by decide +kernel
theorem dX12_back_65 : decode cX12_back 65 = .ok (.iinc 2 1, 3) := by decide +kernel
theorem dX12_back_68 : decode cX12_back 68 = .ok (.goto (-26), 3) := by decide +kernel
theorem dX12_back_71 : decode cX12_back 71 = .ok (.iconst 0, 1) := by decide +kernel
theorem dX12_back_72 : decode cX12_back 72 = .ok (.istore_n 2, 1) := by decide +kernel
theorem dX12_back_73 : decode cX12_back 73 = .ok (.iload_n 2, 1) := by decide +kernel
theorem dX12_back_74 : decode cX12_back 74 = .ok (.sipush 300, 3) := by decide +kernel
theorem dX12_back_77 : decode cX12_back 77 = .ok (.if_icmp .ge 27, 3) := by decide +kernel
theorem dX12_back_80 : decode cX12_back 80 = .ok (.aload_n 0, 1) := by decide +kernel
theorem dX12_back_81 : decode cX12_back 81 = .ok (.getfield 43, 3) := by decide +kernel
theorem dX12_back_84 : decode cX12_back 84 = .ok (.iload_n 2, 1) := by decide +kernel
theorem dX12_back_85 : decode cX12_back 85 = .ok (.aload_n 0, 1) := by decide +kernel
theorem dX12_back_86 : decode cX12_back 86 = .ok (.getfield 58, 3) := by decide +kernel
theorem dX12_back_89 : decode cX12_back 89 = .ok (.sipush 300, 3) := by decide +kernel
theorem dX12_back_92 : decode cX12_back 92 = .ok (.iload_n 1, 1) := by decide +kernel
theorem dX12_back_93 : decode cX12_back 93 = .ok (.imul, 1) := by decide +kernel
theorem dX12_back_94 : decode cX12_back 94 = .ok (.iload_n 2, 1) := by decide +kernel
theorem dX12_back_95 : decode cX12_back 95 = .ok (.iadd, 1) := by decide +kernel
theorem dX12_back_96 : decode cX12_back 96 = .ok (.iaload, 1) := by decide +kernel
theorem dX12_back_97 : decode cX12_back 97 = .ok (.iastore, 1) := by decide +kernel
theorem dX12_back_98 : decode cX12_back 98 = .ok (.iinc 2 1, 3) := by decide +kernel
theorem dX12_back_101 : decode cX12_back 101 = .ok (.goto (-28), 3) := by decide +kernel
theorem dX12_back_104 : decode cX12_back 104 = .ok (.iconst 1, 1) := by decide +kernel
theorem dX12_back_105 : decode cX12_back 105 = .ok (.ireturn, 1) := by decide +kernel
theorem dX12_count_0 : decode cX12_count 0 = .ok (.iload_n 1, 1) := by decide +kernel
theorem dX12_count_1 : decode cX12_count 1 = .ok (.tableswitch 87 0 7 #[47, 52, 57, 62, 67, 72, 77, 82], 47) := by decide +kernel
theorem dX12_count_48 : decode cX12_count 48 = .ok (.aload_n 0, 1) := by decide +kernel
theorem dX12_count_49 : decode cX12_count 49 = .ok (.getfield 220, 3) := by decide +kernel
theorem dX12_count_52 : decode cX12_count 52 = .ok (.ireturn, 1) := by decide +kernel
theorem dX12_count_53 : decode cX12_count 53 = .ok (.aload_n 0, 1) := by decide +kernel
theorem dX12_count_54 : decode cX12_count 54 = .ok (.getfield 223, 3) := by decide +kernel
theorem dX12_count_57 : decode cX12_count 57 = .ok (.ireturn, 1) := by decide +kernel
theorem dX12_count_58 : decode cX12_count 58 = .ok (.aload_n 0, 1) := by decide +kernel
theorem dX12_count_59 : decode cX12_count 59 = .ok (.getfield 232, 3) := by decide +kernel
theorem dX12_count_62 : decode cX12_count 62 = .ok (.ireturn, 1) := by decide +kernel
theorem dX12_count_63 : decode cX12_count 63 = .ok (.aload_n 0, 1) := by decide +kernel
theorem dX12_count_64 : decode cX12_count 64 = .ok (.getfield 235, 3) := by decide +kernel
theorem dX12_count_67 : decode cX12_count 67 = .ok (.ireturn, 1) := by decide +kernel
theorem dX12_count_68 : decode cX12_count 68 = .ok (.aload_n 0, 1) := by decide +kernel
theorem dX12_count_69 : decode cX12_count 69 = .ok (.getfield 296, 3) := by decide +kernel
theorem dX12_count_72 : decode cX12_count 72 = .ok (.ireturn, 1) := by decide +kernel
theorem dX12_count_73 : decode cX12_count 73 = .ok (.aload_n 0, 1) := by decide +kernel
theorem dX12_count_74 : decode cX12_count 74 = .ok (.getfield 226, 3) := by decide +kernel
theorem dX12_count_77 : decode cX12_count 77 = .ok (.ireturn, 1) := by decide +kernel
theorem dX12_count_78 : decode cX12_count 78 = .ok (.aload_n 0, 1) := by decide +kernel
theorem dX12_count_79 : decode cX12_count 79 = .ok (.getfield 229, 3) := by decide +kernel
theorem dX12_count_82 : decode cX12_count 82 = .ok (.ireturn, 1) := by decide +kernel
theorem dX12_count_83 : decode cX12_count 83 = .ok (.aload_n 0, 1) := by decide +kernel
theorem dX12_count_84 : decode cX12_count 84 = .ok (.getfield 94, 3) := by decide +kernel
theorem dX12_count_87 : decode cX12_count 87 = .ok (.ireturn, 1) := by decide +kernel
theorem dX12_count_88 : decode cX12_count 88 = .ok (.iconst (-1), 1) := by decide +kernel
theorem dX12_count_89 : decode cX12_count 89 = .ok (.ireturn, 1) := by decide +kernel
