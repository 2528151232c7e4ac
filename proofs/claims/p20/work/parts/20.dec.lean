theorem dX11_isSound_0 : decode cX11_isSound 0 = .ok (.iload_n 1, 1) := by decide +kernel
theorem dX11_isSound_1 : decode cX11_isSound 1 = .ok (.ifCond .lt 18, 3) := by decide +kernel
theorem dX11_isSound_4 : decode cX11_isSound 4 = .ok (.iload_n 1, 1) := by decide +kernel
theorem dX11_isSound_5 : decode cX11_isSound 5 = .ok (.aload_n 0, 1) := by decide +kernel
theorem dX11_isSound_6 : decode cX11_isSound 6 = .ok (.getfield 35, 3) := by decide +kernel
theorem dX11_isSound_9 : decode cX11_isSound 9 = .ok (.getfield 136, 3) := by decide +kernel
theorem dX11_isSound_12 : decode cX11_isSound 12 = .ok (.if_icmp .ge 7, 3) := by decide +kernel
theorem dX11_isSound_15 : decode cX11_isSound 15 = .ok (.iconst 1, 1) := by decide +kernel
theorem dX11_isSound_16 : decode cX11_isSound 16 = .ok (.goto 4, 3) := by decide +kernel
theorem dX11_isSound_19 : decode cX11_isSound 19 = .ok (.iconst 0, 1) := by decide +kernel
theorem dX11_isSound_20 : decode cX11_isSound 20 = .ok (.ireturn, 1) := by decide +kernel
theorem dX11_sound_0 : decode cX11_sound 0 = .ok (.aload_n 0, 1) := by decide +kernel
theorem dX11_sound_1 : decode cX11_sound 1 = .ok (.iload_n 1, 1) := by decide +kernel
theorem dX11_sound_2 : decode cX11_sound 2 = .ok (.invokevirtual 142, 3) := by decide +kernel
theorem dX11_sound_5 : decode cX11_sound 5 = .ok (.ifCond .ne 5, 3) := by decide +kernel
theorem dX11_sound_8 : decode cX11_sound 8 = .ok (.iconst (-1), 1) := by decide +kernel
theorem dX11_sound_9 : decode cX11_sound 9 = .ok (.ireturn, 1) := by decide +kernel
theorem dX11_sound_10 : decode cX11_sound 10 = .ok (.iload_n 2, 1) := by decide +kernel
theorem dX11_sound_11 : decode cX11_sound 11 = .ok (.tableswitch 55 0 2 #[25, 35, 45], 25) := by decide +kernel
theorem dX11_sound_36 : decode cX11_sound 36 = .ok (.aload_n 0, 1) := by decide +kernel
theorem dX11_sound_37 : decode cX11_sound 37 = .ok (.getfield 35, 3) := by decide +kernel
theorem dX11_sound_40 : decode cX11_sound 40 = .ok (.getfield 146, 3) := by decide +kernel
theorem dX11_sound_43 : decode cX11_sound 43 = .ok (.iload_n 1, 1) := by decide +kernel
theorem dX11_sound_44 : decode cX11_sound 44 = .ok (.iaload, 1) := by decide +kernel
theorem dX11_sound_45 : decode cX11_sound 45 = .ok (.ireturn, 1) := by decide +kernel
theorem dX11_sound_46 : decode cX11_sound 46 = .ok (.aload_n 0, 1) := by decide +kernel
theorem dX11_sound_47 : decode cX11_sound 47 = .ok (.getfield 35, 3) := by decide +kernel
theorem dX11_sound_50 : decode cX11_sound 50 = .ok (.getfield 150, 3) := by decide +kernel
theorem dX11_sound_53 : decode cX11_sound 53 = .ok (.iload_n 1, 1) := by decide +kernel
theorem dX11_sound_54 : decode cX11_sound 54 = .ok (.iaload, 1) := by decide +kernel
theorem dX11_sound_55 : decode cX11_sound 55 = .ok (.ireturn, 1) := by decide +kernel
theorem dX11_sound_56 : decode cX11_sound 56 = .ok (.aload_n 0, 1) := by decide +kernel
theorem dX11_sound_57 : decode cX11_sound 57 = .ok (.getfield 35, 3) := by decide +kernel
theorem dX11_sound_60 : decode cX11_sound 60 = .ok (.getfield 153, 3) := by decide +kernel
theorem dX11_sound_63 : decode cX11_sound 63 = .ok (.iload_n 1, 1) := by decide +kernel
theorem dX11_sound_64 : decode cX11_sound 64 = .ok (.iaload, 1) := by decide +kernel
theorem dX11_sound_65 : decode cX11_sound 65 = .ok (.ireturn, 1) := by decide +kernel
theorem dX11_sound_66 : decode cX11_sound 66 = .ok (.iconst (-1), 1) := by decide +kernel
theorem dX11_sound_67 : decode cX11_sound 67 = .ok (.ireturn, 1) := by decide +kernel
theorem dX11_hasScene_0 : decode cX11_hasScene 0 = .ok (.aload_n 0, 1) := by decide +kernel
theorem dX11_hasScene_1 : decode cX11_hasScene 1 = .ok (.getfield 35, 3) := by decide +kernel
theorem dX11_hasScene_4 : decode cX11_hasScene 4 = .ok (.getfield 136, 3) := by decide +kernel
theorem dX11_hasScene_7 : decode cX11_hasScene 7 = .ok (.ifCond .le 7, 3) := by decide +kernel
theorem dX11_hasScene_10 : decode cX11_hasScene 10 = .ok (.iconst 1, 1) := by decide +kernel
theorem dX11_hasScene_11 : decode cX11_hasScene 11 = .ok (.goto 4, 3) := by decide +kernel
theorem dX11_hasScene_14 : decode cX11_hasScene 14 = .ok (.iconst 0, 1) := by decide +kernel
theorem dX11_hasScene_15 : decode cX11_hasScene 15 = .ok (.ireturn, 1) := by decide +kernel
theorem dX11_count_0 : decode cX11_count 0 = .ok (.iload_n 1, 1) := by decide +kernel
theorem dX11_count_1 : decode cX11_count 1 = .ok (.tableswitch 133 0 7 #[47, 55, 63, 71, 79, 87, 106, 125], 47) := by decide +kernel
theorem dX11_count_48 : decode cX11_count 48 = .ok (.aload_n 0, 1) := by decide +kernel
theorem dX11_count_49 : decode cX11_count 49 = .ok (.getfield 35, 3) := by decide +kernel
theorem dX11_count_52 : decode cX11_count 52 = .ok (.getfield 136, 3) := by decide +kernel
theorem dX11_count_55 : decode cX11_count 55 = .ok (.ireturn, 1) := by decide +kernel
theorem dX11_count_56 : decode cX11_count 56 = .ok (.aload_n 0, 1) := by decide +kernel
theorem dX11_count_57 : decode cX11_count 57 = .ok (.getfield 35, 3) := by decide +kernel
theorem dX11_count_60 : decode cX11_count 60 = .ok (.getfield 156, 3) := by decide +kernel
theorem dX11_count_63 : decode cX11_count 63 = .ok (.ireturn, 1) := by decide +kernel
theorem dX11_count_64 : decode cX11_count 64 = .ok (.aload_n 0, 1) := by decide +kernel
theorem dX11_count_65 : decode cX11_count 65 = .ok (.getfield 24, 3) := by decide +kernel
theorem dX11_count_68 : decode cX11_count 68 = .ok (.getfield 159, 3) := by decide +kernel
theorem dX11_count_71 : decode cX11_count 71 = .ok (.ireturn, 1) := by decide +kernel
theorem dX11_count_72 : decode cX11_count 72 = .ok (.aload_n 0, 1) := by decide +kernel
theorem dX11_count_73 : decode cX11_count 73 = .ok (.getfield 24, 3) := by decide +kernel
theorem dX11_count_76 : decode cX11_count 76 = .ok (.getfield 162, 3) := by decide +kernel
theorem dX11_count_79 : decode cX11_count 79 = .ok (.ireturn, 1) := by decide +kernel
theorem dX11_count_80 : decode cX11_count 80 = .ok (.aload_n 0, 1) := by decide +kernel
theorem dX11_count_81 : decode cX11_count 81 = .ok (.getfield 45, 3) := by decide +kernel
theorem dX11_count_84 : decode cX11_count 84 = .ok (.getfield 139, 3) := by decide +kernel
theorem dX11_count_87 : decode cX11_count 87 = .ok (.ireturn, 1) := by decide +kernel
theorem dX11_count_88 : decode cX11_count 88 = .ok (.aload_n 0, 1) := by decide +kernel
theorem dX11_count_89 : decode cX11_count 89 = .ok (.invokevirtual 165, 3) := by decide +kernel
theorem dX11_count_92 : decode cX11_count 92 = .ok (.ifCond .eq 13, 3) := by decide +kernel
theorem dX11_count_95 : decode cX11_count 95 = .ok (.aload_n 0, 1) := by decide +kernel
theorem dX11_count_96 : decode cX11_count 96 = .ok (.getfield 35, 3) := by decide +kernel
theorem dX11_count_99 : decode cX11_count 99 = .ok (.getfield 126, 3) := by decide +kernel
theorem dX11_count_102 : decode cX11_count 102 = .ok (.goto 4, 3) := by decide +kernel
theorem dX11_count_105 : decode cX11_count 105 = .ok (.iconst 0, 1) := by decide +kernel
theorem dX11_count_106 : decode cX11_count 106 = .ok (.ireturn, 1) := by decide +kernel
theorem dX11_count_107 : decode cX11_count 107 = .ok (.aload_n 0, 1) := by decide +kernel
theorem dX11_count_108 : decode cX11_count 108 = .ok (.invokevirtual 165, 3) := by decide +kernel
theorem dX11_count_111 : decode cX11_count 111 = .ok (.ifCond .eq 13, 3) := by decide +kernel
theorem dX11_count_114 : decode cX11_count 114 = .ok (.aload_n 0, 1) := by decide +kernel
theorem dX11_count_115 : decode cX11_count 115 = .ok (.getfield 35, 3) := by decide +kernel
theorem dX11_count_118 : decode cX11_count 118 = .ok (.getfield 169, 3) := by decide +kernel
theorem dX11_count_121 : decode cX11_count 121 = .ok (.goto 4, 3) := by decide +kernel
theorem dX11_count_124 : decode cX11_count 124 = .ok (.iconst 0, 1) := by decide +kernel
theorem dX11_count_125 : decode cX11_count 125 = .ok (.ireturn, 1) := by decide +kernel
theorem dX11_count_126 : decode cX11_count 126 = .ok (.aload_n 0, 1) := by decide +kernel
theorem dX11_count_127 : decode cX11_count 127 = .ok (.getfield 10, 3) := by decide +kernel
theorem dX11_count_130 : decode cX11_count 130 = .ok (.getfield 111, 3) := by decide +kernel
theorem dX11_count_133 : decode cX11_count 133 = .ok (.ireturn, 1) := by decide +kernel
theorem dX11_count_134 : decode cX11_count 134 = .ok (.iconst (-1), 1) := by decide +kernel
theorem dX11_count_135 : decode cX11_count 135 = .ok (.ireturn, 1) := by decide +kernel
theorem dX11_areChanges_0 : decode cX11_areChanges 0 = .ok (.iload_n 0, 1) := by decide +kernel
theorem dX11_areChanges_1 : decode cX11_areChanges 1 = .ok (.bipush (-30), 2) := by decide +kernel
theorem dX11_areChanges_3 : decode cX11_areChanges 3 = .ok (.if_icmp .lt 25, 3) := by decide +kernel
theorem dX11_areChanges_6 : decode cX11_areChanges 6 = .ok (.iload_n 0, 1) := by decide +kernel
theorem dX11_areChanges_7 : decode cX11_areChanges 7 = .ok (.bipush 30, 2) := by decide +kernel
theorem dX11_areChanges_9 : decode cX11_areChanges 9 = .ok (.if_icmp .gt 19, 3) := by decide +kernel
theorem dX11_areChanges_12 : decode cX11_areChanges 12 = .ok (.iload_n 1, 1) := by decide +kernel
theorem dX11_areChanges_13 : decode cX11_areChanges 13 = .ok (.bipush (-30), 2) := by decide +kernel
theorem dX11_areChanges_15 : decode cX11_areChanges 15 = .ok (.if_icmp .lt 13, 3) := by decide +kernel
theorem dX11_areChanges_18 : decode cX11_areChanges 18 = .ok (.iload_n 1, 1) := by decide +kernel
theorem dX11_areChanges_19 : decode cX11_areChanges 19 = .ok (.bipush 30, 2) := by decide +kernel
theorem dX11_areChanges_21 : decode cX11_areChanges 21 = .ok (.if_icmp .gt 7, 3) := by decide +kernel
theorem dX11_areChanges_24 : decode cX11_areChanges 24 = .ok (.iconst 1, 1) := by decide +kernel
theorem dX11_areChanges_25 : decode cX11_areChanges 25 = .ok (.goto 4, 3) := by decide +kernel
theorem dX11_areChanges_28 : decode cX11_areChanges 28 = .ok (.iconst 0, 1) := by decide +kernel
theorem dX11_areChanges_29 : decode cX11_areChanges 29 = .ok (.ireturn, 1) := by decide +kernel
theorem dX11_isBelief_0 : decode cX11_isBelief 0 = .ok (.iload_n 0, 1) := by decide +kernel
theorem dX11_isBelief_1 : decode cX11_isBelief 1 = .ok (.ifCond .lt 13, 3) := by decide +kernel
theorem dX11_isBelief_4 : decode cX11_isBelief 4 = .ok (.iload_n 0, 1) := by decide +kernel
theorem dX11_isBelief_5 : decode cX11_isBelief 5 = .ok (.bipush 16, 2) := by decide +kernel
theorem dX11_isBelief_7 : decode cX11_isBelief 7 = .ok (.if_icmp .gt 7, 3) := by decide +kernel
theorem dX11_isBelief_10 : decode cX11_isBelief 10 = .ok (.iconst 1, 1) := by decide +kernel
theorem dX11_isBelief_11 : decode cX11_isBelief 11 = .ok (.goto 4, 3) := by decide +kernel
theorem dX11_isBelief_14 : decode cX11_isBelief 14 = .ok (.iconst 0, 1) := by decide +kernel
theorem dX11_isBelief_15 : decode cX11_isBelief 15 = .ok (.ireturn, 1) := by decide +kernel
theorem dX7_changePerson_0 : decode cX7_changePerson 0 = .ok (.aload_n 0, 1) := by decide +kernel
theorem dX7_changePerson_1 : decode cX7_changePerson 1 = .ok (.getfield 19, 3) := by decide +kernel
theorem dX7_changePerson_4 : decode cX7_changePerson 4 = .ok (.iload_n 1, 1) := by decide +kernel
theorem dX7_changePerson_5 : decode cX7_changePerson 5 = .ok (.iload_n 2, 1) := by decide +kernel
theorem dX7_changePerson_6 : decode cX7_changePerson 6 = .ok (.iastore, 1) := by decide +kernel
theorem dX7_changePerson_7 : decode cX7_changePerson 7 = .ok (.aload_n 0, 1) := by decide +kernel
theorem dX7_changePerson_8 : decode cX7_changePerson 8 = .ok (.getfield 23, 3) := by decide +kernel
theorem dX7_changePerson_11 : decode cX7_changePerson 11 = .ok (.iload_n 1, 1) := by decide +kernel
theorem dX7_changePerson_12 : decode cX7_changePerson 12 = .ok (.iload_n 3, 1) := by decide +kernel
theorem dX7_changePerson_13 : decode cX7_changePerson 13 = .ok (.iastore, 1) := by decide +kernel
theorem dX7_changePerson_14 : decode cX7_changePerson 14 = .ok (.aload_n 0, 1) := by decide +kernel
theorem dX7_changePerson_15 : decode cX7_changePerson 15 = .ok (.getfield 26, 3) := by decide +kernel
theorem dX7_changePerson_18 : decode cX7_changePerson 18 = .ok (.iload_n 1, 1) := by decide +kernel
theorem dX7_changePerson_19 : decode cX7_changePerson 19 = .ok (.iload 4, 2) := by decide +kernel
theorem dX7_changePerson_21 : decode cX7_changePerson 21 = .ok (.iastore, 1) := by decide +kernel
theorem dX7_changePerson_22 : decode cX7_changePerson 22 = .ok (.return_, 1) := by decide +kernel
theorem dX7_addPerson_0 : decode cX7_addPerson 0 = .ok (.aload_n 0, 1) := by decide +kernel
theorem dX7_addPerson_1 : decode cX7_addPerson 1 = .ok (.getfield 15, 3) := by decide +kernel
theorem dX7_addPerson_4 : decode cX7_addPerson 4 = .ok (.bipush 10, 2) := by decide +kernel
theorem dX7_addPerson_6 : decode cX7_addPerson 6 = .ok (.if_icmp .lt 5, 3) := by decide +kernel
theorem dX7_addPerson_9 : decode cX7_addPerson 9 = .ok (.iconst (-1), 1) := by decide +kernel
theorem dX7_addPerson_10 : decode cX7_addPerson 10 = .ok (.ireturn, 1) := by decide +kernel
theorem dX7_addPerson_11 : decode cX7_addPerson 11 = .ok (.aload_n 0, 1) := by decide +kernel
theorem dX7_addPerson_12 : decode cX7_addPerson 12 = .ok (.getfield 29, 3) := by decide +kernel
theorem dX7_addPerson_15 : decode cX7_addPerson 15 = .ok (.aload_n 0, 1) := by decide +kernel
theorem dX7_addPerson_16 : decode cX7_addPerson 16 = .ok (.getfield 15, 3) := by decide +kernel
theorem dX7_addPerson_19 : decode cX7_addPerson 19 = .ok (.iload 4, 2) := by decide +kernel
theorem dX7_addPerson_21 : decode cX7_addPerson 21 = .ok (.iastore, 1) := by decide +kernel
theorem dX7_addPerson_22 : decode cX7_addPerson 22 = .ok (.aload_n 0, 1) := by decide +kernel
theorem dX7_addPerson_23 : decode cX7_addPerson 23 = .ok (.aload_n 0, 1) := by decide +kernel
theorem dX7_addPerson_24 : decode cX7_addPerson 24 = .ok (.getfield 15, 3) := by decide +kernel
theorem dX7_addPerson_27 : decode cX7_addPerson 27 = .ok (.iload_n 1, 1) := by decide +kernel
theorem dX7_addPerson_28 : decode cX7_addPerson 28 = .ok (.iload_n 2, 1) := by decide +kernel
theorem dX7_addPerson_29 : decode cX7_addPerson 29 = .ok (.iload_n 3, 1) := by decide +kernel
theorem dX7_addPerson_30 : decode cX7_addPerson 30 = .ok (.invokevirtual 55, 3) := by decide +kernel
theorem dX7_addPerson_33 : decode cX7_addPerson 33 = .ok (.aload_n 0, 1) := by decide +kernel
theorem dX7_addPerson_34 : decode cX7_addPerson 34 = .ok (.dup, 1) := by decide +kernel
theorem dX7_addPerson_35 : decode cX7_addPerson 35 = .ok (.getfield 15, 3) := by decide +kernel
theorem dX7_addPerson_38 : decode cX7_addPerson 38 = .ok (.iconst 1, 1) := by decide +kernel
theorem dX7_addPerson_39 : decode cX7_addPerson 39 = .ok (.iadd, 1) := by decide +kernel
theorem dX7_addPerson_40 : decode cX7_addPerson 40 = .ok (.putfield 15, 3) := by decide +kernel
theorem dX7_addPerson_43 : decode cX7_addPerson 43 = .ok (.aload_n 0, 1) := by decide +kernel
theorem dX7_addPerson_44 : decode cX7_addPerson 44 = .ok (.getfield 15, 3) := by decide +kernel
theorem dX7_addPerson_47 : decode cX7_addPerson 47 = .ok (.iconst 1, 1) := by decide +kernel
theorem dX7_addPerson_48 : decode cX7_addPerson 48 = .ok (.isub, 1) := by decide +kernel
theorem dX7_addPerson_49 : decode cX7_addPerson 49 = .ok (.ireturn, 1) := by decide +kernel
theorem dX11_person_0 : decode cX11_person 0 = .ok (.iload_n 1, 1) := by decide +kernel
theorem dX11_person_1 : decode cX11_person 1 = .ok (.iload_n 2, 1) := by decide +kernel
theorem dX11_person_2 : decode cX11_person 2 = .ok (.invokestatic 172, 3) := by decide +kernel
theorem dX11_person_5 : decode cX11_person 5 = .ok (.ifCond .eq 29, 3) := by decide +kernel
theorem dX11_person_8 : decode cX11_person 8 = .ok (.iload_n 3, 1) := by decide +kernel
theorem dX11_person_9 : decode cX11_person 9 = .ok (.ifCond .lt 25, 3) := by decide +kernel
theorem dX11_person_12 : decode cX11_person 12 = .ok (.iload_n 3, 1) := by decide +kernel
theorem dX11_person_13 : decode cX11_person 13 = .ok (.bipush 100, 2) := by decide +kernel
theorem dX11_person_15 : decode cX11_person 15 = .ok (.idiv, 1) := by decide +kernel
theorem dX11_person_16 : decode cX11_person 16 = .ok (.iconst 3, 1) := by decide +kernel
theorem dX11_person_17 : decode cX11_person 17 = .ok (.if_icmp .gt 17, 3) := by decide +kernel
theorem dX11_person_20 : decode cX11_person 20 = .ok (.iload_n 3, 1) := by decide +kernel
theorem dX11_person_21 : decode cX11_person 21 = .ok (.bipush 100, 2) := by decide +kernel
theorem dX11_person_23 : decode cX11_person 23 = .ok (.irem, 1) := by decide +kernel
theorem dX11_person_24 : decode cX11_person 24 = .ok (.invokestatic 176, 3) := by decide +kernel
theorem dX11_person_27 : decode cX11_person 27 = .ok (.ifCond .eq 7, 3) := by decide +kernel
theorem dX11_person_30 : decode cX11_person 30 = .ok (.iconst 1, 1) := by decide +kernel
theorem dX11_person_31 : decode cX11_person 31 = .ok (.goto 4, 3) := by decide +kernel
theorem dX11_person_34 : decode cX11_person 34 = .ok (.iconst 0, 1) := by decide +kernel
theorem dX11_person_35 : decode cX11_person 35 = .ok (.istore 4, 2) := by decide +kernel
theorem dX11_person_37 : decode cX11_person 37 = .ok (.aload_n 0, 1) := by decide +kernel
theorem dX11_person_38 : decode cX11_person 38 = .ok (.invokevirtual 165, 3) := by decide +kernel
theorem dX11_person_41 : decode cX11_person 41 = .ok (.ifCond .eq 20, 3) := by decide +kernel
theorem dX11_person_44 : decode cX11_person 44 = .ok (.iload 4, 2) := by decide +kernel
theorem dX11_person_46 : decode cX11_person 46 = .ok (.ifCond .eq 15, 3) := by decide +kernel
theorem dX11_person_49 : decode cX11_person 49 = .ok (.aload_n 0, 1) := by decide +kernel
theorem dX11_person_50 : decode cX11_person 50 = .ok (.getfield 24, 3) := by decide +kernel
theorem dX11_person_53 : decode cX11_person 53 = .ok (.getfield 159, 3) := by decide +kernel
theorem dX11_person_56 : decode cX11_person 56 = .ok (.bipush 10, 2) := by decide +kernel
theorem dX11_person_58 : decode cX11_person 58 = .ok (.if_icmp .lt 5, 3) := by decide +kernel
theorem dX11_person_61 : decode cX11_person 61 = .ok (.iconst (-1), 1) := by decide +kernel
theorem dX11_person_62 : decode cX11_person 62 = .ok (.ireturn, 1) := by decide +kernel
theorem dX11_person_63 : decode cX11_person 63 = .ok (.aload_n 0, 1) := by decide +kernel
theorem dX11_person_64 : decode cX11_person 64 = .ok (.getfield 24, 3) := by decide +kernel
theorem dX11_person_67 : decode cX11_person 67 = .ok (.iload_n 1, 1) := by decide +kernel
theorem dX11_person_68 : decode cX11_person 68 = .ok (.iload_n 2, 1) := by decide +kernel
theorem dX11_person_69 : decode cX11_person 69 = .ok (.iload_n 3, 1) := by decide +kernel
theorem dX11_person_70 : decode cX11_person 70 = .ok (.bipush 100, 2) := by decide +kernel
theorem dX11_person_72 : decode cX11_person 72 = .ok (.irem, 1) := by decide +kernel
theorem dX11_person_73 : decode cX11_person 73 = .ok (.iload_n 3, 1) := by decide +kernel
theorem dX11_person_74 : decode cX11_person 74 = .ok (.bipush 100, 2) := by decide +kernel
theorem dX11_person_76 : decode cX11_person 76 = .ok (.idiv, 1) := by decide +kernel
theorem dX11_person_77 : decode cX11_person 77 = .ok (.invokevirtual 179, 3) := by decide +kernel
theorem dX11_person_80 : decode cX11_person 80 = .ok (.ireturn, 1) := by decide +kernel
theorem dX11_isPerson_0 : decode cX11_isPerson 0 = .ok (.iload_n 1, 1) := by decide +kernel
theorem dX11_isPerson_1 : decode cX11_isPerson 1 = .ok (.ifCond .lt 18, 3) := by decide +kernel
theorem dX11_isPerson_4 : decode cX11_isPerson 4 = .ok (.iload_n 1, 1) := by decide +kernel
theorem dX11_isPerson_5 : decode cX11_isPerson 5 = .ok (.aload_n 0, 1) := by decide +kernel
theorem dX11_isPerson_6 : decode cX11_isPerson 6 = .ok (.getfield 24, 3) := by decide +kernel
theorem dX11_isPerson_9 : decode cX11_isPerson 9 = .ok (.getfield 159, 3) := by decide +kernel
theorem dX11_isPerson_12 : decode cX11_isPerson 12 = .ok (.if_icmp .ge 7, 3) := by decide +kernel
theorem dX11_isPerson_15 : decode cX11_isPerson 15 = .ok (.iconst 1, 1) := by decide +kernel
theorem dX11_isPerson_16 : decode cX11_isPerson 16 = .ok (.goto 4, 3) := by decide +kernel
theorem dX11_isPerson_19 : decode cX11_isPerson 19 = .ok (.iconst 0, 1) := by decide +kernel
theorem dX11_isPerson_20 : decode cX11_isPerson 20 = .ok (.ireturn, 1) := by decide +kernel
theorem dX11_who_0 : decode cX11_who 0 = .ok (.aload_n 0, 1) := by decide +kernel
theorem dX11_who_1 : decode cX11_who 1 = .ok (.iload_n 1, 1) := by decide +kernel
theorem dX11_who_2 : decode cX11_who 2 = .ok (.invokevirtual 183, 3) := by decide +kernel
theorem dX11_who_5 : decode cX11_who 5 = .ok (.ifCond .ne 6, 3) := by decide +kernel
theorem dX11_who_8 : decode cX11_who 8 = .ok (.ldc 125, 2) := by decide +kernel
theorem dX11_who_10 : decode cX11_who 10 = .ok (.ireturn, 1) := by decide +kernel
theorem dX11_who_11 : decode cX11_who 11 = .ok (.iload_n 2, 1) := by decide +kernel
theorem dX11_who_12 : decode cX11_who 12 = .ok (.tableswitch 72 0 3 #[32, 42, 52, 62], 32) := by decide +kernel
theorem dX11_who_44 : decode cX11_who 44 = .ok (.aload_n 0, 1) := by decide +kernel
theorem dX11_who_45 : decode cX11_who 45 = .ok (.getfield 24, 3) := by decide +kernel
theorem dX11_who_48 : decode cX11_who 48 = .ok (.getfield 186, 3) := by decide +kernel
theorem dX11_who_51 : decode cX11_who 51 = .ok (.iload_n 1, 1) := by decide +kernel
theorem dX11_who_52 : decode cX11_who 52 = .ok (.iaload, 1) := by decide +kernel
theorem dX11_who_53 : decode cX11_who 53 = .ok (.ireturn, 1) := by decide +kernel
theorem dX11_who_54 : decode cX11_who 54 = .ok (.aload_n 0, 1) := by decide +kernel
theorem dX11_who_55 : decode cX11_who 55 = .ok (.getfield 24, 3) := by decide +kernel
theorem dX11_who_58 : decode cX11_who 58 = .ok (.getfield 189, 3) := by decide +kernel
theorem dX11_who_61 : decode cX11_who 61 = .ok (.iload_n 1, 1) := by decide +kernel
theorem dX11_who_62 : decode cX11_who 62 = .ok (.iaload, 1) := by decide +kernel
theorem dX11_who_63 : decode cX11_who 63 = .ok (.ireturn, 1) := by decide +kernel
theorem dX11_who_64 : decode cX11_who 64 = .ok (.aload_n 0, 1) := by decide +kernel
theorem dX11_who_65 : decode cX11_who 65 = .ok (.getfield 24, 3) := by decide +kernel
theorem dX11_who_68 : decode cX11_who 68 = .ok (.getfield 192, 3) := by decide +kernel
theorem dX11_who_71 : decode cX11_who 71 = .ok (.iload_n 1, 1) := by decide +kernel
theorem dX11_who_72 : decode cX11_who 72 = .ok (.iaload, 1) := by decide +kernel
theorem dX11_who_73 : decode cX11_who 73 = .ok (.ireturn, 1) := by decide +kernel
theorem dX11_who_74 : decode cX11_who 74 = .ok (.aload_n 0, 1) := by decide +kernel
theorem dX11_who_75 : decode cX11_who 75 = .ok (.getfield 24, 3) := by decide +kernel
theorem dX11_who_78 : decode cX11_who 78 = .ok (.getfield 194, 3) := by decide +kernel
theorem dX11_who_81 : decode cX11_who 81 = .ok (.iload_n 1, 1) := by decide +kernel
theorem dX11_who_82 : decode cX11_who 82 = .ok (.iaload, 1) := by decide +kernel
theorem dX11_who_83 : decode cX11_who 83 = .ok (.ireturn, 1) := by decide +kernel
theorem dX11_who_84 : decode cX11_who 84 = .ok (.ldc 125, 2) := by decide +kernel
theorem dX11_who_86 : decode cX11_who 86 = .ok (.ireturn, 1) := by decide +kernel
theorem dX11_becomes_0 : decode cX11_becomes 0 = .ok (.aload_n 0, 1) := by decide +kernel
theorem dX11_becomes_1 : decode cX11_becomes 1 = .ok (.iload_n 1, 1) := by decide +kernel
theorem dX11_becomes_2 : decode cX11_becomes 2 = .ok (.invokevirtual 183, 3) := by decide +kernel
theorem dX11_becomes_5 : decode cX11_becomes 5 = .ok (.ifCond .eq 19, 3) := by decide +kernel
theorem dX11_becomes_8 : decode cX11_becomes 8 = .ok (.iload_n 2, 1) := by decide +kernel
theorem dX11_becomes_9 : decode cX11_becomes 9 = .ok (.iload_n 3, 1) := by decide +kernel
theorem dX11_becomes_10 : decode cX11_becomes 10 = .ok (.invokestatic 172, 3) := by decide +kernel
theorem dX11_becomes_13 : decode cX11_becomes 13 = .ok (.ifCond .eq 11, 3) := by decide +kernel
theorem dX11_becomes_16 : decode cX11_becomes 16 = .ok (.iload 4, 2) := by decide +kernel
theorem dX11_becomes_18 : decode cX11_becomes 18 = .ok (.invokestatic 176, 3) := by decide +kernel
theorem dX11_becomes_21 : decode cX11_becomes 21 = .ok (.ifCond .ne 5, 3) := by decide +kernel
theorem dX11_becomes_24 : decode cX11_becomes 24 = .ok (.iconst 0, 1) := by decide +kernel
theorem dX11_becomes_25 : decode cX11_becomes 25 = .ok (.ireturn, 1) := by decide +kernel
theorem dX11_becomes_26 : decode cX11_becomes 26 = .ok (.aload_n 0, 1) := by decide +kernel
theorem dX11_becomes_27 : decode cX11_becomes 27 = .ok (.getfield 24, 3) := by decide +kernel
theorem dX11_becomes_30 : decode cX11_becomes 30 = .ok (.iload_n 1, 1) := by decide +kernel
theorem dX11_becomes_31 : decode cX11_becomes 31 = .ok (.iload_n 2, 1) := by decide +kernel
theorem dX11_becomes_32 : decode cX11_becomes 32 = .ok (.iload_n 3, 1) := by decide +kernel
theorem dX11_becomes_33 : decode cX11_becomes 33 = .ok (.iload 4, 2) := by decide +kernel
theorem dX11_becomes_35 : decode cX11_becomes 35 = .ok (.invokevirtual 197, 3) := by decide +kernel
theorem dX11_becomes_38 : decode cX11_becomes 38 = .ok (.iconst 1, 1) := by decide +kernel
theorem dX11_becomes_39 : decode cX11_becomes 39 = .ok (.ireturn, 1) := by decide +kernel
theorem dX11_isLaw_0 : decode cX11_isLaw 0 = .ok (.iload_n 0, 1) := by decide +kernel
theorem dX11_isLaw_1 : decode cX11_isLaw 1 = .ok (.ifCond .lt 13, 3) := by decide +kernel
theorem dX11_isLaw_4 : decode cX11_isLaw 4 = .ok (.iload_n 0, 1) := by decide +kernel
theorem dX11_isLaw_5 : decode cX11_isLaw 5 = .ok (.bipush 7, 2) := by decide +kernel
theorem dX11_isLaw_7 : decode cX11_isLaw 7 = .ok (.if_icmp .ge 7, 3) := by decide +kernel
theorem dX11_isLaw_10 : decode cX11_isLaw 10 = .ok (.iconst 1, 1) := by decide +kernel
theorem dX11_isLaw_11 : decode cX11_isLaw 11 = .ok (.goto 4, 3) := by decide +kernel
theorem dX11_isLaw_14 : decode cX11_isLaw 14 = .ok (.iconst 0, 1) := by decide +kernel
theorem dX11_isLaw_15 : decode cX11_isLaw 15 = .ok (.ireturn, 1) := by decide +kernel
theorem dX11_isSetting_0 : decode cX11_isSetting 0 = .ok (.iload_n 0, 1) := by decide +kernel
theorem dX11_isSetting_1 : decode cX11_isSetting 1 = .ok (.ifCond .lt 13, 3) := by decide +kernel
theorem dX11_isSetting_4 : decode cX11_isSetting 4 = .ok (.iload_n 0, 1) := by decide +kernel
theorem dX11_isSetting_5 : decode cX11_isSetting 5 = .ok (.bipush 99, 2) := by decide +kernel
theorem dX11_isSetting_7 : decode cX11_isSetting 7 = .ok (.if_icmp .gt 7, 3) := by decide +kernel
theorem dX11_isSetting_10 : decode cX11_isSetting 10 = .ok (.iconst 1, 1) := by decide +kernel
theorem dX11_isSetting_11 : decode cX11_isSetting 11 = .ok (.goto 4, 3) := by decide +kernel
theorem dX11_isSetting_14 : decode cX11_isSetting 14 = .ok (.iconst 0, 1) := by decide +kernel
theorem dX11_isSetting_15 : decode cX11_isSetting 15 = .ok (.ireturn, 1) := by decide +kernel
theorem dX11_isLate_0 : decode cX11_isLate 0 = .ok (.iload_n 0, 1) := by decide +kernel
theorem dX11_isLate_1 : decode cX11_isLate 1 = .ok (.bipush (-99), 2) := by decide +kernel
theorem dX11_isLate_3 : decode cX11_isLate 3 = .ok (.if_icmp .lt 13, 3) := by decide +kernel
theorem dX11_isLate_6 : decode cX11_isLate 6 = .ok (.iload_n 0, 1) := by decide +kernel
theorem dX11_isLate_7 : decode cX11_isLate 7 = .ok (.bipush 99, 2) := by decide +kernel
theorem dX11_isLate_9 : decode cX11_isLate 9 = .ok (.if_icmp .gt 7, 3) := by decide +kernel
theorem dX11_isLate_12 : decode cX11_isLate 12 = .ok (.iconst 1, 1) := by decide +kernel
theorem dX11_isLate_13 : decode cX11_isLate 13 = .ok (.goto 4, 3) := by decide +kernel
theorem dX11_isLate_16 : decode cX11_isLate 16 = .ok (.iconst 0, 1) := by decide +kernel
theorem dX11_isLate_17 : decode cX11_isLate 17 = .ok (.ireturn, 1) := by decide +kernel
theorem dX11_isTrial_0 : decode cX11_isTrial 0 = .ok (.iload_n 1, 1) := by decide +kernel
theorem dX11_isTrial_1 : decode cX11_isTrial 1 = .ok (.ifCond .lt 43, 3) := by decide +kernel
theorem dX11_isTrial_4 : decode cX11_isTrial 4 = .ok (.aload_n 0, 1) := by decide +kernel
theorem dX11_isTrial_5 : decode cX11_isTrial 5 = .ok (.iload_n 1, 1) := by decide +kernel
theorem dX11_isTrial_6 : decode cX11_isTrial 6 = .ok (.bipush 100, 2) := by decide +kernel
theorem dX11_isTrial_8 : decode cX11_isTrial 8 = .ok (.idiv, 1) := by decide +kernel
theorem dX11_isTrial_9 : decode cX11_isTrial 9 = .ok (.invokevirtual 183, 3) := by decide +kernel
theorem dX11_isTrial_12 : decode cX11_isTrial 12 = .ok (.ifCond .eq 32, 3) := by decide +kernel
theorem dX11_isTrial_15 : decode cX11_isTrial 15 = .ok (.aload_n 0, 1) := by decide +kernel
theorem dX11_isTrial_16 : decode cX11_isTrial 16 = .ok (.iload_n 1, 1) := by decide +kernel
theorem dX11_isTrial_17 : decode cX11_isTrial 17 = .ok (.bipush 10, 2) := by decide +kernel
theorem dX11_isTrial_19 : decode cX11_isTrial 19 = .ok (.idiv, 1) := by decide +kernel
theorem dX11_isTrial_20 : decode cX11_isTrial 20 = .ok (.bipush 10, 2) := by decide +kernel
theorem dX11_isTrial_22 : decode cX11_isTrial 22 = .ok (.irem, 1) := by decide +kernel
theorem dX11_isTrial_23 : decode cX11_isTrial 23 = .ok (.invokevirtual 142, 3) := by decide +kernel
theorem dX11_isTrial_26 : decode cX11_isTrial 26 = .ok (.ifCond .eq 18, 3) := by decide +kernel
theorem dX11_isTrial_29 : decode cX11_isTrial 29 = .ok (.aload_n 0, 1) := by decide +kernel
theorem dX11_isTrial_30 : decode cX11_isTrial 30 = .ok (.iload_n 1, 1) := by decide +kernel
theorem dX11_isTrial_31 : decode cX11_isTrial 31 = .ok (.bipush 10, 2) := by decide +kernel
theorem dX11_isTrial_33 : decode cX11_isTrial 33 = .ok (.irem, 1) := by decide +kernel
theorem dX11_isTrial_34 : decode cX11_isTrial 34 = .ok (.invokevirtual 142, 3) := by decide +kernel
theorem dX11_isTrial_37 : decode cX11_isTrial 37 = .ok (.ifCond .eq 7, 3) := by decide +kernel
theorem dX11_isTrial_40 : decode cX11_isTrial 40 = .ok (.iconst 1, 1) := by decide +kernel
theorem dX11_isTrial_41 : decode cX11_isTrial 41 = .ok (.goto 4, 3) := by decide +kernel
theorem dX11_isTrial_44 : decode cX11_isTrial 44 = .ok (.iconst 0, 1) := by decide +kernel
theorem dX11_isTrial_45 : decode cX11_isTrial 45 = .ok (.istore 4, 2) := by decide +kernel
theorem dX11_isTrial_47 : decode cX11_isTrial 47 = .ok (.iload 4, 2) := by decide +kernel
theorem dX11_isTrial_49 : decode cX11_isTrial 49 = .ok (.ifCond .eq 21, 3) := by decide +kernel
theorem dX11_isTrial_52 : decode cX11_isTrial 52 = .ok (.iload_n 2, 1) := by decide +kernel
theorem dX11_isTrial_53 : decode cX11_isTrial 53 = .ok (.invokestatic 297, 3) := by decide +kernel
theorem dX11_isTrial_56 : decode cX11_isTrial 56 = .ok (.ifCond .eq 14, 3) := by decide +kernel
theorem dX11_isTrial_59 : decode cX11_isTrial 59 = .ok (.iload_n 3, 1) := by decide +kernel
theorem dX11_isTrial_60 : decode cX11_isTrial 60 = .ok (.invokestatic 300, 3) := by decide +kernel
theorem dX11_isTrial_63 : decode cX11_isTrial 63 = .ok (.ifCond .eq 7, 3) := by decide +kernel
theorem dX11_isTrial_66 : decode cX11_isTrial 66 = .ok (.iconst 1, 1) := by decide +kernel
theorem dX11_isTrial_67 : decode cX11_isTrial 67 = .ok (.goto 4, 3) := by decide +kernel
theorem dX11_isTrial_70 : decode cX11_isTrial 70 = .ok (.iconst 0, 1) := by decide +kernel
theorem dX11_isTrial_71 : decode cX11_isTrial 71 = .ok (.ireturn, 1) := by decide +kernel
theorem dX10_place_0 : decode cX10_place 0 = .ok (.aload_n 0, 1) := by decide +kernel
theorem dX10_place_1 : decode cX10_place 1 = .ok (.aload_n 1, 1) := by decide +kernel
theorem dX10_place_2 : decode cX10_place 2 = .ok (.putfield 59, 3) := by decide +kernel
theorem dX10_place_5 : decode cX10_place 5 = .ok (.aload_n 0, 1) := by decide +kernel
theorem dX10_place_6 : decode cX10_place 6 = .ok (.iload_n 2, 1) := by decide +kernel
theorem dX10_place_7 : decode cX10_place 7 = .ok (.bipush 10, 2) := by decide +kernel
theorem dX10_place_9 : decode cX10_place 9 = .ok (.idiv, 1) := by decide +kernel
theorem dX10_place_10 : decode cX10_place 10 = .ok (.putfield 9, 3) := by decide +kernel
theorem dX10_place_13 : decode cX10_place 13 = .ok (.aload_n 0, 1) := by decide +kernel
theorem dX10_place_14 : decode cX10_place 14 = .ok (.iload_n 2, 1) := by decide +kernel
theorem dX10_place_15 : decode cX10_place 15 = .ok (.bipush 10, 2) := by decide +kernel
theorem dX10_place_17 : decode cX10_place 17 = .ok (.irem, 1) := by decide +kernel
theorem dX10_place_18 : decode cX10_place 18 = .ok (.putfield 15, 3) := by decide +kernel
theorem dX10_place_21 : decode cX10_place 21 = .ok (.aload_n 0, 1) := by decide +kernel
theorem dX10_place_22 : decode cX10_place 22 = .ok (.iload_n 3, 1) := by decide +kernel
theorem dX10_place_23 : decode cX10_place 23 = .ok (.bipush 10, 2) := by decide +kernel
theorem dX10_place_25 : decode cX10_place 25 = .ok (.idiv, 1) := by decide +kernel
theorem dX10_place_26 : decode cX10_place 26 = .ok (.putfield 18, 3) := by decide +kernel
theorem dX10_place_29 : decode cX10_place 29 = .ok (.aload_n 0, 1) := by decide +kernel
theorem dX10_place_30 : decode cX10_place 30 = .ok (.iload_n 3, 1) := by decide +kernel
theorem dX10_place_31 : decode cX10_place 31 = .ok (.bipush 10, 2) := by decide +kernel
theorem dX10_place_33 : decode cX10_place 33 = .ok (.irem, 1) := by decide +kernel
theorem dX10_place_34 : decode cX10_place 34 = .ok (.putfield 21, 3) := by decide +kernel
theorem dX10_place_37 : decode cX10_place 37 = .ok (.return_, 1) := by decide +kernel
theorem dX10_farFrom_0 : decode cX10_farFrom 0 = .ok (.aload_n 0, 1) := by decide +kernel
theorem dX10_farFrom_1 : decode cX10_farFrom 1 = .ok (.getfield 59, 3) := by decide +kernel
theorem dX10_farFrom_4 : decode cX10_farFrom 4 = .ok (.getfield 82, 3) := by decide +kernel
theorem dX10_farFrom_7 : decode cX10_farFrom 7 = .ok (.iload_n 1, 1) := by decide +kernel
theorem dX10_farFrom_8 : decode cX10_farFrom 8 = .ok (.iaload, 1) := by decide +kernel
theorem dX10_farFrom_9 : decode cX10_farFrom 9 = .ok (.iload_n 2, 1) := by decide +kernel
theorem dX10_farFrom_10 : decode cX10_farFrom 10 = .ok (.isub, 1) := by decide +kernel
theorem dX10_farFrom_11 : decode cX10_farFrom 11 = .ok (.invokestatic 86, 3) := by decide +kernel
theorem dX10_farFrom_14 : decode cX10_farFrom 14 = .ok (.aload_n 0, 1) := by decide +kernel
theorem dX10_farFrom_15 : decode cX10_farFrom 15 = .ok (.getfield 59, 3) := by decide +kernel
theorem dX10_farFrom_18 : decode cX10_farFrom 18 = .ok (.getfield 93, 3) := by decide +kernel
theorem dX10_farFrom_21 : decode cX10_farFrom 21 = .ok (.iload_n 1, 1) := by decide +kernel
theorem dX10_farFrom_22 : decode cX10_farFrom 22 = .ok (.iaload, 1) := by decide +kernel
theorem dX10_farFrom_23 : decode cX10_farFrom 23 = .ok (.iload_n 3, 1) := by decide +kernel
theorem dX10_farFrom_24 : decode cX10_farFrom 24 = .ok (.isub, 1) := by decide +kernel
theorem dX10_farFrom_25 : decode cX10_farFrom 25 = .ok (.invokestatic 86, 3) := by decide +kernel
theorem dX10_farFrom_28 : decode cX10_farFrom 28 = .ok (.iadd, 1) := by decide +kernel
theorem dX10_farFrom_29 : decode cX10_farFrom 29 = .ok (.ireturn, 1) := by decide +kernel
theorem dX10_spread_0 : decode cX10_spread 0 = .ok (.aload_n 0, 1) := by decide +kernel
theorem dX10_spread_1 : decode cX10_spread 1 = .ok (.iconst 1, 1) := by decide +kernel
theorem dX10_spread_2 : decode cX10_spread 2 = .ok (.aload_n 0, 1) := by decide +kernel
theorem dX10_spread_3 : decode cX10_spread 3 = .ok (.getfield 59, 3) := by decide +kernel
theorem dX10_spread_6 : decode cX10_spread 6 = .ok (.getfield 63, 3) := by decide +kernel
theorem dX10_spread_9 : decode cX10_spread 9 = .ok (.iload_n 1, 1) := by decide +kernel
theorem dX10_spread_10 : decode cX10_spread 10 = .ok (.iadd, 1) := by decide +kernel
theorem dX10_spread_11 : decode cX10_spread 11 = .ok (.aload_n 0, 1) := by decide +kernel
theorem dX10_spread_12 : decode cX10_spread 12 = .ok (.getfield 59, 3) := by decide +kernel
theorem dX10_spread_15 : decode cX10_spread 15 = .ok (.getfield 66, 3) := by decide +kernel
theorem dX10_spread_18 : decode cX10_spread 18 = .ok (.aload_n 0, 1) := by decide +kernel
theorem dX10_spread_19 : decode cX10_spread 19 = .ok (.getfield 18, 3) := by decide +kernel
theorem dX10_spread_22 : decode cX10_spread 22 = .ok (.imul, 1) := by decide +kernel
theorem dX10_spread_23 : decode cX10_spread 23 = .ok (.iadd, 1) := by decide +kernel
theorem dX10_spread_24 : decode cX10_spread 24 = .ok (.invokestatic 69, 3) := by decide +kernel
theorem dX10_spread_27 : decode cX10_spread 27 = .ok (.putfield 24, 3) := by decide +kernel
theorem dX10_spread_30 : decode cX10_spread 30 = .ok (.aload_n 0, 1) := by decide +kernel
theorem dX10_spread_31 : decode cX10_spread 31 = .ok (.iconst 1, 1) := by decide +kernel
theorem dX10_spread_32 : decode cX10_spread 32 = .ok (.aload_n 0, 1) := by decide +kernel
theorem dX10_spread_33 : decode cX10_spread 33 = .ok (.getfield 59, 3) := by decide +kernel
theorem dX10_spread_36 : decode cX10_spread 36 = .ok (.getfield 75, 3) := by decide +kernel
theorem dX10_spread_39 : decode cX10_spread 39 = .ok (.iload_n 2, 1) := by decide +kernel
theorem dX10_spread_40 : decode cX10_spread 40 = .ok (.iadd, 1) := by decide +kernel
theorem dX10_spread_41 : decode cX10_spread 41 = .ok (.aload_n 0, 1) := by decide +kernel
theorem dX10_spread_42 : decode cX10_spread 42 = .ok (.getfield 59, 3) := by decide +kernel
theorem dX10_spread_45 : decode cX10_spread 45 = .ok (.getfield 76, 3) := by decide +kernel
theorem dX10_spread_48 : decode cX10_spread 48 = .ok (.aload_n 0, 1) := by decide +kernel
theorem dX10_spread_49 : decode cX10_spread 49 = .ok (.getfield 21, 3) := by decide +kernel
theorem dX10_spread_52 : decode cX10_spread 52 = .ok (.imul, 1) := by decide +kernel
theorem dX10_spread_53 : decode cX10_spread 53 = .ok (.iadd, 1) := by decide +kernel
theorem dX10_spread_54 : decode cX10_spread 54 = .ok (.invokestatic 69, 3) := by decide +kernel
theorem dX10_spread_57 : decode cX10_spread 57 = .ok (.putfield 27, 3) := by decide +kernel
theorem dX10_spread_60 : decode cX10_spread 60 = .ok (.aload_n 0, 1) := by decide +kernel
theorem dX10_spread_61 : decode cX10_spread 61 = .ok (.lconst 0, 1) := by decide +kernel
theorem dX10_spread_62 : decode cX10_spread 62 = .ok (.putfield 41, 3) := by decide +kernel
theorem dX10_spread_65 : decode cX10_spread 65 = .ok (.aload_n 0, 1) := by decide +kernel
theorem dX10_spread_66 : decode cX10_spread 66 = .ok (.lconst 0, 1) := by decide +kernel
theorem dX10_spread_67 : decode cX10_spread 67 = .ok (.putfield 44, 3) := by decide +kernel
theorem dX10_spread_70 : decode cX10_spread 70 = .ok (.aload_n 0, 1) := by decide +kernel
theorem dX10_spread_71 : decode cX10_spread 71 = .ok (.lconst 0, 1) := by decide +kernel
theorem dX10_spread_72 : decode cX10_spread 72 = .ok (.putfield 47, 3) := by decide +kernel
theorem dX10_spread_75 : decode cX10_spread 75 = .ok (.iconst 0, 1) := by decide +kernel
theorem dX10_spread_76 : decode cX10_spread 76 = .ok (.istore_n 3, 1) := by decide +kernel
theorem dX10_spread_77 : decode cX10_spread 77 = .ok (.iload_n 3, 1) := by decide +kernel
theorem dX10_spread_78 : decode cX10_spread 78 = .ok (.aload_n 0, 1) := by decide +kernel
theorem dX10_spread_79 : decode cX10_spread 79 = .ok (.getfield 59, 3) := by decide +kernel
theorem dX10_spread_82 : decode cX10_spread 82 = .ok (.getfield 79, 3) := by decide +kernel
theorem dX10_spread_85 : decode cX10_spread 85 = .ok (.if_icmp .ge 153, 3) := by decide +kernel
theorem dX10_spread_88 : decode cX10_spread 88 = .ok (.aload_n 0, 1) := by decide +kernel
theorem dX10_spread_89 : decode cX10_spread 89 = .ok (.getfield 59, 3) := by decide +kernel
theorem dX10_spread_92 : decode cX10_spread 92 = .ok (.getfield 82, 3) := by decide +kernel
theorem dX10_spread_95 : decode cX10_spread 95 = .ok (.iload_n 3, 1) := by decide +kernel
theorem dX10_spread_96 : decode cX10_spread 96 = .ok (.iaload, 1) := by decide +kernel
theorem dX10_spread_97 : decode cX10_spread 97 = .ok (.aload_n 0, 1) := by decide +kernel
theorem dX10_spread_98 : decode cX10_spread 98 = .ok (.getfield 59, 3) := by decide +kernel
theorem dX10_spread_101 : decode cX10_spread 101 = .ok (.getfield 82, 3) := by decide +kernel
theorem dX10_spread_104 : decode cX10_spread 104 = .ok (.aload_n 0, 1) := by decide +kernel
theorem dX10_spread_105 : decode cX10_spread 105 = .ok (.getfield 15, 3) := by decide +kernel
theorem dX10_spread_108 : decode cX10_spread 108 = .ok (.iaload, 1) := by decide +kernel
theorem dX10_spread_109 : decode cX10_spread 109 = .ok (.isub, 1) := by decide +kernel
theorem dX10_spread_110 : decode cX10_spread 110 = .ok (.invokestatic 86, 3) := by decide +kernel
theorem dX10_spread_113 : decode cX10_spread 113 = .ok (.istore 4, 2) := by decide +kernel
theorem dX10_spread_115 : decode cX10_spread 115 = .ok (.aload_n 0, 1) := by decide +kernel
theorem dX10_spread_116 : decode cX10_spread 116 = .ok (.getfield 59, 3) := by decide +kernel
theorem dX10_spread_119 : decode cX10_spread 119 = .ok (.getfield 90, 3) := by decide +kernel
theorem dX10_spread_122 : decode cX10_spread 122 = .ok (.iload_n 3, 1) := by decide +kernel
theorem dX10_spread_123 : decode cX10_spread 123 = .ok (.iaload, 1) := by decide +kernel
theorem dX10_spread_124 : decode cX10_spread 124 = .ok (.iconst 0, 1) := by decide +kernel
theorem dX10_spread_125 : decode cX10_spread 125 = .ok (.aload_n 0, 1) := by decide +kernel
theorem dX10_spread_126 : decode cX10_spread 126 = .ok (.getfield 24, 3) := by decide +kernel
theorem dX10_spread_129 : decode cX10_spread 129 = .ok (.aload_n 0, 1) := by decide +kernel
theorem dX10_spread_130 : decode cX10_spread 130 = .ok (.iload_n 3, 1) := by decide +kernel
theorem dX10_spread_131 : decode cX10_spread 131 = .ok (.aload_n 0, 1) := by decide +kernel
theorem dX10_spread_132 : decode cX10_spread 132 = .ok (.getfield 59, 3) := by decide +kernel
theorem dX10_spread_135 : decode cX10_spread 135 = .ok (.getfield 82, 3) := by decide +kernel
theorem dX10_spread_138 : decode cX10_spread 138 = .ok (.aload_n 0, 1) := by decide +kernel
theorem dX10_spread_139 : decode cX10_spread 139 = .ok (.getfield 9, 3) := by decide +kernel
theorem dX10_spread_142 : decode cX10_spread 142 = .ok (.iaload, 1) := by decide +kernel
theorem dX10_spread_143 : decode cX10_spread 143 = .ok (.aload_n 0, 1) := by decide +kernel
theorem dX10_spread_144 : decode cX10_spread 144 = .ok (.getfield 59, 3) := by decide +kernel
theorem dX10_spread_147 : decode cX10_spread 147 = .ok (.getfield 93, 3) := by decide +kernel
theorem dX10_spread_150 : decode cX10_spread 150 = .ok (.aload_n 0, 1) := by decide +kernel
theorem dX10_spread_151 : decode cX10_spread 151 = .ok (.getfield 9, 3) := by decide +kernel
theorem dX10_spread_154 : decode cX10_spread 154 = .ok (.iaload, 1) := by decide +kernel
theorem dX10_spread_155 : decode cX10_spread 155 = .ok (.invokevirtual 96, 3) := by decide +kernel
theorem dX10_spread_158 : decode cX10_spread 158 = .ok (.isub, 1) := by decide +kernel
theorem dX10_spread_159 : decode cX10_spread 159 = .ok (.invokestatic 69, 3) := by decide +kernel
theorem dX10_spread_162 : decode cX10_spread 162 = .ok (.imul, 1) := by decide +kernel
theorem dX10_spread_163 : decode cX10_spread 163 = .ok (.i2l, 1) := by decide +kernel
theorem dX10_spread_164 : decode cX10_spread 164 = .ok (.lstore 5, 2) := by decide +kernel
theorem dX10_spread_166 : decode cX10_spread 166 = .ok (.iconst 0, 1) := by decide +kernel
theorem dX10_spread_167 : decode cX10_spread 167 = .ok (.aload_n 0, 1) := by decide +kernel
theorem dX10_spread_168 : decode cX10_spread 168 = .ok (.getfield 27, 3) := by decide +kernel
theorem dX10_spread_171 : decode cX10_spread 171 = .ok (.iload 4, 2) := by decide +kernel
theorem dX10_spread_173 : decode cX10_spread 173 = .ok (.isub, 1) := by decide +kernel
theorem dX10_spread_174 : decode cX10_spread 174 = .ok (.invokestatic 69, 3) := by decide +kernel
theorem dX10_spread_177 : decode cX10_spread 177 = .ok (.i2l, 1) := by decide +kernel
theorem dX10_spread_178 : decode cX10_spread 178 = .ok (.lstore 7, 2) := by decide +kernel
theorem dX10_spread_180 : decode cX10_spread 180 = .ok (.aload_n 0, 1) := by decide +kernel
theorem dX10_spread_181 : decode cX10_spread 181 = .ok (.getfield 34, 3) := by decide +kernel
theorem dX10_spread_184 : decode cX10_spread 184 = .ok (.iload_n 3, 1) := by decide +kernel
theorem dX10_spread_185 : decode cX10_spread 185 = .ok (.lload 5, 2) := by decide +kernel
theorem dX10_spread_187 : decode cX10_spread 187 = .ok (.lastore, 1) := by decide +kernel
theorem dX10_spread_188 : decode cX10_spread 188 = .ok (.aload_n 0, 1) := by decide +kernel
theorem dX10_spread_189 : decode cX10_spread 189 = .ok (.getfield 38, 3) := by decide +kernel
theorem dX10_spread_192 : decode cX10_spread 192 = .ok (.iload_n 3, 1) := by decide +kernel
theorem dX10_spread_193 : decode cX10_spread 193 = .ok (.lload 7, 2) := by decide +kernel
theorem dX10_spread_195 : decode cX10_spread 195 = .ok (.lastore, 1) := by decide +kernel
theorem dX10_spread_196 : decode cX10_spread 196 = .ok (.aload_n 0, 1) := by decide +kernel
theorem dX10_spread_197 : decode cX10_spread 197 = .ok (.dup, 1) := by decide +kernel
theorem dX10_spread_198 : decode cX10_spread 198 = .ok (.getfield 41, 3) := by decide +kernel
theorem dX10_spread_201 : decode cX10_spread 201 = .ok (.lload 5, 2) := by decide +kernel
theorem dX10_spread_203 : decode cX10_spread 203 = .ok (.ladd, 1) := by decide +kernel
theorem dX10_spread_204 : decode cX10_spread 204 = .ok (.putfield 41, 3) := by decide +kernel
theorem dX10_spread_207 : decode cX10_spread 207 = .ok (.aload_n 0, 1) := by decide +kernel
theorem dX10_spread_208 : decode cX10_spread 208 = .ok (.dup, 1) := by decide +kernel
theorem dX10_spread_209 : decode cX10_spread 209 = .ok (.getfield 44, 3) := by decide +kernel
theorem dX10_spread_212 : decode cX10_spread 212 = .ok (.lload 7, 2) := by decide +kernel
theorem dX10_spread_214 : decode cX10_spread 214 = .ok (.ladd, 1) := by decide +kernel
theorem dX10_spread_215 : decode cX10_spread 215 = .ok (.putfield 44, 3) := by decide +kernel
theorem dX10_spread_218 : decode cX10_spread 218 = .ok (.aload_n 0, 1) := by decide +kernel
theorem dX10_spread_219 : decode cX10_spread 219 = .ok (.dup, 1) := by decide +kernel
theorem dX10_spread_220 : decode cX10_spread 220 = .ok (.getfield 47, 3) := by decide +kernel
theorem dX10_spread_223 : decode cX10_spread 223 = .ok (.lload 5, 2) := by decide +kernel
theorem dX10_spread_225 : decode cX10_spread 225 = .ok (.lload 7, 2) := by decide +kernel
theorem dX10_spread_227 : decode cX10_spread 227 = .ok (.lmul, 1) := by decide +kernel
theorem dX10_spread_228 : decode cX10_spread 228 = .ok (.ladd, 1) := by decide +kernel
theorem dX10_spread_229 : decode cX10_spread 229 = .ok (.putfield 47, 3) := by decide +kernel
theorem dX10_spread_232 : decode cX10_spread 232 = .ok (.iinc 3 1, 3) := by decide +kernel
theorem dX10_spread_235 : decode cX10_spread 235 = .ok (.goto (-158), 3) := by decide +kernel
theorem dX10_spread_238 : decode cX10_spread 238 = .ok (.return_, 1) := by decide +kernel
theorem dX11_poseAs_0 : decode cX11_poseAs 0 = .ok (.aload_n 0, 1) := by decide +kernel
theorem dX11_poseAs_1 : decode cX11_poseAs 1 = .ok (.getfield 75, 3) := by decide +kernel
theorem dX11_poseAs_4 : decode cX11_poseAs 4 = .ok (.aload_n 0, 1) := by decide +kernel
theorem dX11_poseAs_5 : decode cX11_poseAs 5 = .ok (.getfield 35, 3) := by decide +kernel
theorem dX11_poseAs_8 : decode cX11_poseAs 8 = .ok (.iload_n 1, 1) := by decide +kernel
theorem dX11_poseAs_9 : decode cX11_poseAs 9 = .ok (.bipush 100, 2) := by decide +kernel
theorem dX11_poseAs_11 : decode cX11_poseAs 11 = .ok (.irem, 1) := by decide +kernel
theorem dX11_poseAs_12 : decode cX11_poseAs 12 = .ok (.iload_n 2, 1) := by decide +kernel
theorem dX11_poseAs_13 : decode cX11_poseAs 13 = .ok (.invokevirtual 344, 3) := by decide +kernel
theorem dX11_poseAs_16 : decode cX11_poseAs 16 = .ok (.aload_n 0, 1) := by decide +kernel
theorem dX11_poseAs_17 : decode cX11_poseAs 17 = .ok (.getfield 75, 3) := by decide +kernel
theorem dX11_poseAs_20 : decode cX11_poseAs 20 = .ok (.iload_n 3, 1) := by decide +kernel
theorem dX11_poseAs_21 : decode cX11_poseAs 21 = .ok (.iload 4, 2) := by decide +kernel
theorem dX11_poseAs_23 : decode cX11_poseAs 23 = .ok (.invokevirtual 348, 3) := by decide +kernel
theorem dX11_poseAs_26 : decode cX11_poseAs 26 = .ok (.return_, 1) := by decide +kernel
theorem dX10_trustAt_0 : decode cX10_trustAt 0 = .ok (.iload_n 2, 1) := by decide +kernel
theorem dX10_trustAt_1 : decode cX10_trustAt 1 = .ok (.ifCond .lt 19, 3) := by decide +kernel
theorem dX10_trustAt_4 : decode cX10_trustAt 4 = .ok (.iload_n 2, 1) := by decide +kernel
theorem dX10_trustAt_5 : decode cX10_trustAt 5 = .ok (.iconst 1, 1) := by decide +kernel
theorem dX10_trustAt_6 : decode cX10_trustAt 6 = .ok (.aload_n 0, 1) := by decide +kernel
theorem dX10_trustAt_7 : decode cX10_trustAt 7 = .ok (.getfield 59, 3) := by decide +kernel
theorem dX10_trustAt_10 : decode cX10_trustAt 10 = .ok (.getfield 100, 3) := by decide +kernel
theorem dX10_trustAt_13 : decode cX10_trustAt 13 = .ok (.invokestatic 69, 3) := by decide +kernel
theorem dX10_trustAt_16 : decode cX10_trustAt 16 = .ok (.idiv, 1) := by decide +kernel
theorem dX10_trustAt_17 : decode cX10_trustAt 17 = .ok (.goto 19, 3) := by decide +kernel
theorem dX10_trustAt_20 : decode cX10_trustAt 20 = .ok (.iload_n 2, 1) := by decide +kernel
theorem dX10_trustAt_21 : decode cX10_trustAt 21 = .ok (.ineg, 1) := by decide +kernel
theorem dX10_trustAt_22 : decode cX10_trustAt 22 = .ok (.iconst 1, 1) := by decide +kernel
theorem dX10_trustAt_23 : decode cX10_trustAt 23 = .ok (.aload_n 0, 1) := by decide +kernel
theorem dX10_trustAt_24 : decode cX10_trustAt 24 = .ok (.getfield 59, 3) := by decide +kernel
theorem dX10_trustAt_27 : decode cX10_trustAt 27 = .ok (.getfield 100, 3) := by decide +kernel
theorem dX10_trustAt_30 : decode cX10_trustAt 30 = .ok (.iconst 2, 1) := by decide +kernel
theorem dX10_trustAt_31 : decode cX10_trustAt 31 = .ok (.idiv, 1) := by decide +kernel
theorem dX10_trustAt_32 : decode cX10_trustAt 32 = .ok (.invokestatic 69, 3) := by decide +kernel
theorem dX10_trustAt_35 : decode cX10_trustAt 35 = .ok (.idiv, 1) := by decide +kernel
theorem dX10_trustAt_36 : decode cX10_trustAt 36 = .ok (.istore_n 3, 1) := by decide +kernel
theorem dX10_trustAt_37 : decode cX10_trustAt 37 = .ok (.aload_n 0, 1) := by decide +kernel
theorem dX10_trustAt_38 : decode cX10_trustAt 38 = .ok (.iconst 0, 1) := by decide +kernel
theorem dX10_trustAt_39 : decode cX10_trustAt 39 = .ok (.iload_n 1, 1) := by decide +kernel
theorem dX10_trustAt_40 : decode cX10_trustAt 40 = .ok (.iload_n 3, 1) := by decide +kernel
theorem dX10_trustAt_41 : decode cX10_trustAt 41 = .ok (.isub, 1) := by decide +kernel
theorem dX10_trustAt_42 : decode cX10_trustAt 42 = .ok (.invokestatic 69, 3) := by decide +kernel
theorem dX10_trustAt_45 : decode cX10_trustAt 45 = .ok (.i2l, 1) := by decide +kernel
theorem dX10_trustAt_46 : decode cX10_trustAt 46 = .ok (.putfield 30, 3) := by decide +kernel
theorem dX10_trustAt_49 : decode cX10_trustAt 49 = .ok (.return_, 1) := by decide +kernel
theorem dX11_pose_0 : decode cX11_pose 0 = .ok (.iload_n 1, 1) := by decide +kernel
theorem dX11_pose_1 : decode cX11_pose 1 = .ok (.bipush 100, 2) := by decide +kernel
theorem dX11_pose_3 : decode cX11_pose 3 = .ok (.idiv, 1) := by decide +kernel
theorem dX11_pose_4 : decode cX11_pose 4 = .ok (.istore 4, 2) := by decide +kernel
theorem dX11_pose_6 : decode cX11_pose 6 = .ok (.aload_n 0, 1) := by decide +kernel
theorem dX11_pose_7 : decode cX11_pose 7 = .ok (.iload_n 1, 1) := by decide +kernel
theorem dX11_pose_8 : decode cX11_pose 8 = .ok (.iload_n 2, 1) := by decide +kernel
theorem dX11_pose_9 : decode cX11_pose 9 = .ok (.aload_n 0, 1) := by decide +kernel
theorem dX11_pose_10 : decode cX11_pose 10 = .ok (.getfield 24, 3) := by decide +kernel
theorem dX11_pose_13 : decode cX11_pose 13 = .ok (.getfield 186, 3) := by decide +kernel
theorem dX11_pose_16 : decode cX11_pose 16 = .ok (.iload 4, 2) := by decide +kernel
theorem dX11_pose_18 : decode cX11_pose 18 = .ok (.iaload, 1) := by decide +kernel
theorem dX11_pose_19 : decode cX11_pose 19 = .ok (.aload_n 0, 1) := by decide +kernel
theorem dX11_pose_20 : decode cX11_pose 20 = .ok (.getfield 24, 3) := by decide +kernel
theorem dX11_pose_23 : decode cX11_pose 23 = .ok (.getfield 189, 3) := by decide +kernel
theorem dX11_pose_26 : decode cX11_pose 26 = .ok (.iload 4, 2) := by decide +kernel
theorem dX11_pose_28 : decode cX11_pose 28 = .ok (.iaload, 1) := by decide +kernel
theorem dX11_pose_29 : decode cX11_pose 29 = .ok (.invokevirtual 341, 3) := by decide +kernel
theorem dX11_pose_32 : decode cX11_pose 32 = .ok (.aload_n 0, 1) := by decide +kernel
theorem dX11_pose_33 : decode cX11_pose 33 = .ok (.getfield 75, 3) := by decide +kernel
theorem dX11_pose_36 : decode cX11_pose 36 = .ok (.aload_n 0, 1) := by decide +kernel
theorem dX11_pose_37 : decode cX11_pose 37 = .ok (.getfield 24, 3) := by decide +kernel
theorem dX11_pose_40 : decode cX11_pose 40 = .ok (.getfield 192, 3) := by decide +kernel
theorem dX11_pose_43 : decode cX11_pose 43 = .ok (.iload 4, 2) := by decide +kernel
theorem dX11_pose_45 : decode cX11_pose 45 = .ok (.iaload, 1) := by decide +kernel
theorem dX11_pose_46 : decode cX11_pose 46 = .ok (.iload_n 3, 1) := by decide +kernel
theorem dX11_pose_47 : decode cX11_pose 47 = .ok (.invokevirtual 306, 3) := by decide +kernel
theorem dX11_pose_50 : decode cX11_pose 50 = .ok (.return_, 1) := by decide +kernel
theorem dX10_weighVoice_0 : decode cX10_weighVoice 0 = .ok (.iconst 0, 1) := by decide +kernel
theorem dX10_weighVoice_1 : decode cX10_weighVoice 1 = .ok (.istore_n 1, 1) := by decide +kernel
theorem dX10_weighVoice_2 : decode cX10_weighVoice 2 = .ok (.iload_n 1, 1) := by decide +kernel
theorem dX10_weighVoice_3 : decode cX10_weighVoice 3 = .ok (.aload_n 0, 1) := by decide +kernel
theorem dX10_weighVoice_4 : decode cX10_weighVoice 4 = .ok (.getfield 59, 3) := by decide +kernel
theorem dX10_weighVoice_7 : decode cX10_weighVoice 7 = .ok (.getfield 79, 3) := by decide +kernel
theorem dX10_weighVoice_10 : decode cX10_weighVoice 10 = .ok (.if_icmp .ge 21, 3) := by decide +kernel
theorem dX10_weighVoice_13 : decode cX10_weighVoice 13 = .ok (.aload_n 0, 1) := by decide +kernel
theorem dX10_weighVoice_14 : decode cX10_weighVoice 14 = .ok (.getfield 50, 3) := by decide +kernel
theorem dX10_weighVoice_17 : decode cX10_weighVoice 17 = .ok (.iload_n 1, 1) := by decide +kernel
theorem dX10_weighVoice_18 : decode cX10_weighVoice 18 = .ok (.aload_n 0, 1) := by decide +kernel
theorem dX10_weighVoice_19 : decode cX10_weighVoice 19 = .ok (.getfield 34, 3) := by decide +kernel
theorem dX10_weighVoice_22 : decode cX10_weighVoice 22 = .ok (.iload_n 1, 1) := by decide +kernel
theorem dX10_weighVoice_23 : decode cX10_weighVoice 23 = .ok (.laload, 1) := by decide +kernel
theorem dX10_weighVoice_24 : decode cX10_weighVoice 24 = .ok (.lastore, 1) := by decide +kernel
theorem dX10_weighVoice_25 : decode cX10_weighVoice 25 = .ok (.iinc 1 1, 3) := by decide +kernel
theorem dX10_weighVoice_28 : decode cX10_weighVoice 28 = .ok (.goto (-26), 3) := by decide +kernel
theorem dX10_weighVoice_31 : decode cX10_weighVoice 31 = .ok (.aload_n 0, 1) := by decide +kernel
theorem dX10_weighVoice_32 : decode cX10_weighVoice 32 = .ok (.aload_n 0, 1) := by decide +kernel
theorem dX10_weighVoice_33 : decode cX10_weighVoice 33 = .ok (.getfield 41, 3) := by decide +kernel
theorem dX10_weighVoice_36 : decode cX10_weighVoice 36 = .ok (.putfield 53, 3) := by decide +kernel
theorem dX10_weighVoice_39 : decode cX10_weighVoice 39 = .ok (.return_, 1) := by decide +kernel
theorem dX10_weighFace_0 : decode cX10_weighFace 0 = .ok (.aload_n 0, 1) := by decide +kernel
theorem dX10_weighFace_1 : decode cX10_weighFace 1 = .ok (.lconst 0, 1) := by decide +kernel
theorem dX10_weighFace_2 : decode cX10_weighFace 2 = .ok (.putfield 53, 3) := by decide +kernel
theorem dX10_weighFace_5 : decode cX10_weighFace 5 = .ok (.iconst 0, 1) := by decide +kernel
theorem dX10_weighFace_6 : decode cX10_weighFace 6 = .ok (.istore_n 1, 1) := by decide +kernel
theorem dX10_weighFace_7 : decode cX10_weighFace 7 = .ok (.iload_n 1, 1) := by decide +kernel
theorem dX10_weighFace_8 : decode cX10_weighFace 8 = .ok (.aload_n 0, 1) := by decide +kernel
theorem dX10_weighFace_9 : decode cX10_weighFace 9 = .ok (.getfield 59, 3) := by decide +kernel
theorem dX10_weighFace_12 : decode cX10_weighFace 12 = .ok (.getfield 79, 3) := by decide +kernel
theorem dX10_weighFace_15 : decode cX10_weighFace 15 = .ok (.if_icmp .ge 47, 3) := by decide +kernel
theorem dX10_weighFace_18 : decode cX10_weighFace 18 = .ok (.aload_n 0, 1) := by decide +kernel
theorem dX10_weighFace_19 : decode cX10_weighFace 19 = .ok (.getfield 50, 3) := by decide +kernel
theorem dX10_weighFace_22 : decode cX10_weighFace 22 = .ok (.iload_n 1, 1) := by decide +kernel
theorem dX10_weighFace_23 : decode cX10_weighFace 23 = .ok (.aload_n 0, 1) := by decide +kernel
theorem dX10_weighFace_24 : decode cX10_weighFace 24 = .ok (.getfield 59, 3) := by decide +kernel
theorem dX10_weighFace_27 : decode cX10_weighFace 27 = .ok (.getfield 90, 3) := by decide +kernel
theorem dX10_weighFace_30 : decode cX10_weighFace 30 = .ok (.iload_n 1, 1) := by decide +kernel
theorem dX10_weighFace_31 : decode cX10_weighFace 31 = .ok (.iaload, 1) := by decide +kernel
theorem dX10_weighFace_32 : decode cX10_weighFace 32 = .ok (.i2l, 1) := by decide +kernel
theorem dX10_weighFace_33 : decode cX10_weighFace 33 = .ok (.aload_n 0, 1) := by decide +kernel
theorem dX10_weighFace_34 : decode cX10_weighFace 34 = .ok (.getfield 38, 3) := by decide +kernel
theorem dX10_weighFace_37 : decode cX10_weighFace 37 = .ok (.iload_n 1, 1) := by decide +kernel
theorem dX10_weighFace_38 : decode cX10_weighFace 38 = .ok (.laload, 1) := by decide +kernel
theorem dX10_weighFace_39 : decode cX10_weighFace 39 = .ok (.lmul, 1) := by decide +kernel
theorem dX10_weighFace_40 : decode cX10_weighFace 40 = .ok (.lastore, 1) := by decide +kernel
theorem dX10_weighFace_41 : decode cX10_weighFace 41 = .ok (.aload_n 0, 1) := by decide +kernel
theorem dX10_weighFace_42 : decode cX10_weighFace 42 = .ok (.dup, 1) := by decide +kernel
theorem dX10_weighFace_43 : decode cX10_weighFace 43 = .ok (.getfield 53, 3) := by decide +kernel
theorem dX10_weighFace_46 : decode cX10_weighFace 46 = .ok (.aload_n 0, 1) := by decide +kernel
theorem dX10_weighFace_47 : decode cX10_weighFace 47 = .ok (.getfield 50, 3) := by decide +kernel
theorem dX10_weighFace_50 : decode cX10_weighFace 50 = .ok (.iload_n 1, 1) := by decide +kernel
theorem dX10_weighFace_51 : decode cX10_weighFace 51 = .ok (.laload, 1) := by decide +kernel
theorem dX10_weighFace_52 : decode cX10_weighFace 52 = .ok (.ladd, 1) := by decide +kernel
theorem dX10_weighFace_53 : decode cX10_weighFace 53 = .ok (.putfield 53, 3) := by decide +kernel
theorem dX10_weighFace_56 : decode cX10_weighFace 56 = .ok (.iinc 1 1, 3) := by decide +kernel
theorem dX10_weighFace_59 : decode cX10_weighFace 59 = .ok (.goto (-52), 3) := by decide +kernel
theorem dX10_weighFace_62 : decode cX10_weighFace 62 = .ok (.return_, 1) := by decide +kernel
theorem dX10_mostLikely_0 : decode cX10_mostLikely 0 = .ok (.iconst 0, 1) := by decide +kernel
theorem dX10_mostLikely_1 : decode cX10_mostLikely 1 = .ok (.istore_n 1, 1) := by decide +kernel
theorem dX10_mostLikely_2 : decode cX10_mostLikely 2 = .ok (.iconst 1, 1) := by decide +kernel
theorem dX10_mostLikely_3 : decode cX10_mostLikely 3 = .ok (.istore_n 2, 1) := by decide +kernel
theorem dX10_mostLikely_4 : decode cX10_mostLikely 4 = .ok (.iload_n 2, 1) := by decide +kernel
theorem dX10_mostLikely_5 : decode cX10_mostLikely 5 = .ok (.aload_n 0, 1) := by decide +kernel
theorem dX10_mostLikely_6 : decode cX10_mostLikely 6 = .ok (.getfield 59, 3) := by decide +kernel
theorem dX10_mostLikely_9 : decode cX10_mostLikely 9 = .ok (.getfield 79, 3) := by decide +kernel
theorem dX10_mostLikely_12 : decode cX10_mostLikely 12 = .ok (.if_icmp .ge 27, 3) := by decide +kernel
theorem dX10_mostLikely_15 : decode cX10_mostLikely 15 = .ok (.aload_n 0, 1) := by decide +kernel
theorem dX10_mostLikely_16 : decode cX10_mostLikely 16 = .ok (.getfield 50, 3) := by decide +kernel
theorem dX10_mostLikely_19 : decode cX10_mostLikely 19 = .ok (.iload_n 2, 1) := by decide +kernel
theorem dX10_mostLikely_20 : decode cX10_mostLikely 20 = .ok (.laload, 1) := by decide +kernel
theorem dX10_mostLikely_21 : decode cX10_mostLikely 21 = .ok (.aload_n 0, 1) := by decide +kernel
theorem dX10_mostLikely_22 : decode cX10_mostLikely 22 = .ok (.getfield 50, 3) := by decide +kernel
theorem dX10_mostLikely_25 : decode cX10_mostLikely 25 = .ok (.iload_n 1, 1) := by decide +kernel
theorem dX10_mostLikely_26 : decode cX10_mostLikely 26 = .ok (.laload, 1) := by decide +kernel
theorem dX10_mostLikely_27 : decode cX10_mostLikely 27 = .ok (.lcmp, 1) := by decide +kernel
theorem dX10_mostLikely_28 : decode cX10_mostLikely 28 = .ok (.ifCond .le 5, 3) := by decide +kernel
theorem dX10_mostLikely_31 : decode cX10_mostLikely 31 = .ok (.iload_n 2, 1) := by decide +kernel
theorem dX10_mostLikely_32 : decode cX10_mostLikely 32 = .ok (.istore_n 1, 1) := by decide +kernel
theorem dX10_mostLikely_33 : decode cX10_mostLikely 33 = .ok (.iinc 2 1, 3) := by decide +kernel
theorem dX10_mostLikely_36 : decode cX10_mostLikely 36 = .ok (.goto (-32), 3) := by decide +kernel
theorem dX10_mostLikely_39 : decode cX10_mostLikely 39 = .ok (.iload_n 1, 1) := by decide +kernel
theorem dX10_mostLikely_40 : decode cX10_mostLikely 40 = .ok (.ireturn, 1) := by decide +kernel
theorem dX10_greatestWeight_0 : decode cX10_greatestWeight 0 = .ok (.aload_n 0, 1) := by decide +kernel
theorem dX10_greatestWeight_1 : decode cX10_greatestWeight 1 = .ok (.getfield 50, 3) := by decide +kernel
theorem dX10_greatestWeight_4 : decode cX10_greatestWeight 4 = .ok (.aload_n 0, 1) := by decide +kernel
theorem dX10_greatestWeight_5 : decode cX10_greatestWeight 5 = .ok (.invokevirtual 138, 3) := by decide +kernel
theorem dX10_greatestWeight_8 : decode cX10_greatestWeight 8 = .ok (.laload, 1) := by decide +kernel
theorem dX10_greatestWeight_9 : decode cX10_greatestWeight 9 = .ok (.lreturn, 1) := by decide +kernel
theorem dX10_weighSurer_0 : decode cX10_weighSurer 0 = .ok (.aload_n 0, 1) := by decide +kernel
theorem dX10_weighSurer_1 : decode cX10_weighSurer 1 = .ok (.invokevirtual 103, 3) := by decide +kernel
theorem dX10_weighSurer_4 : decode cX10_weighSurer 4 = .ok (.aload_n 0, 1) := by decide +kernel
theorem dX10_weighSurer_5 : decode cX10_weighSurer 5 = .ok (.invokevirtual 129, 3) := by decide +kernel
theorem dX10_weighSurer_8 : decode cX10_weighSurer 8 = .ok (.lstore_n 1, 1) := by decide +kernel
theorem dX10_weighSurer_9 : decode cX10_weighSurer 9 = .ok (.aload_n 0, 1) := by decide +kernel
theorem dX10_weighSurer_10 : decode cX10_weighSurer 10 = .ok (.getfield 53, 3) := by decide +kernel
theorem dX10_weighSurer_13 : decode cX10_weighSurer 13 = .ok (.lstore_n 3, 1) := by decide +kernel
theorem dX10_weighSurer_14 : decode cX10_weighSurer 14 = .ok (.aload_n 0, 1) := by decide +kernel
theorem dX10_weighSurer_15 : decode cX10_weighSurer 15 = .ok (.invokevirtual 126, 3) := by decide +kernel
theorem dX10_weighSurer_18 : decode cX10_weighSurer 18 = .ok (.lload_n 1, 1) := by decide +kernel
theorem dX10_weighSurer_19 : decode cX10_weighSurer 19 = .ok (.aload_n 0, 1) := by decide +kernel
theorem dX10_weighSurer_20 : decode cX10_weighSurer 20 = .ok (.getfield 53, 3) := by decide +kernel
theorem dX10_weighSurer_23 : decode cX10_weighSurer 23 = .ok (.lmul, 1) := by decide +kernel
theorem dX10_weighSurer_24 : decode cX10_weighSurer 24 = .ok (.aload_n 0, 1) := by decide +kernel
theorem dX10_weighSurer_25 : decode cX10_weighSurer 25 = .ok (.invokevirtual 129, 3) := by decide +kernel
theorem dX10_weighSurer_28 : decode cX10_weighSurer 28 = .ok (.lload_n 3, 1) := by decide +kernel
theorem dX10_weighSurer_29 : decode cX10_weighSurer 29 = .ok (.lmul, 1) := by decide +kernel
theorem dX10_weighSurer_30 : decode cX10_weighSurer 30 = .ok (.lcmp, 1) := by decide +kernel
theorem dX10_weighSurer_31 : decode cX10_weighSurer 31 = .ok (.ifCond .le 7, 3) := by decide +kernel
theorem dX10_weighSurer_34 : decode cX10_weighSurer 34 = .ok (.aload_n 0, 1) := by decide +kernel
theorem dX10_weighSurer_35 : decode cX10_weighSurer 35 = .ok (.invokevirtual 103, 3) := by decide +kernel
theorem dX10_weighSurer_38 : decode cX10_weighSurer 38 = .ok (.return_, 1) := by decide +kernel
theorem dX10_weighOne_0 : decode cX10_weighOne 0 = .ok (.aload_n 0, 1) := by decide +kernel
theorem dX10_weighOne_1 : decode cX10_weighOne 1 = .ok (.getfield 47, 3) := by decide +kernel
theorem dX10_weighOne_4 : decode cX10_weighOne 4 = .ok (.lconst 0, 1) := by decide +kernel
theorem dX10_weighOne_5 : decode cX10_weighOne 5 = .ok (.lcmp, 1) := by decide +kernel
theorem dX10_weighOne_6 : decode cX10_weighOne 6 = .ok (.ifCond .ne 8, 3) := by decide +kernel
theorem dX10_weighOne_9 : decode cX10_weighOne 9 = .ok (.aload_n 0, 1) := by decide +kernel
theorem dX10_weighOne_10 : decode cX10_weighOne 10 = .ok (.invokevirtual 126, 3) := by decide +kernel
theorem dX10_weighOne_13 : decode cX10_weighOne 13 = .ok (.return_, 1) := by decide +kernel
theorem dX10_weighOne_14 : decode cX10_weighOne 14 = .ok (.iconst 0, 1) := by decide +kernel
theorem dX10_weighOne_15 : decode cX10_weighOne 15 = .ok (.istore_n 1, 1) := by decide +kernel
theorem dX10_weighOne_16 : decode cX10_weighOne 16 = .ok (.iload_n 1, 1) := by decide +kernel
theorem dX10_weighOne_17 : decode cX10_weighOne 17 = .ok (.aload_n 0, 1) := by decide +kernel
theorem dX10_weighOne_18 : decode cX10_weighOne 18 = .ok (.getfield 59, 3) := by decide +kernel
theorem dX10_weighOne_21 : decode cX10_weighOne 21 = .ok (.getfield 79, 3) := by decide +kernel
theorem dX10_weighOne_24 : decode cX10_weighOne 24 = .ok (.if_icmp .ge 28, 3) := by decide +kernel
theorem dX10_weighOne_27 : decode cX10_weighOne 27 = .ok (.aload_n 0, 1) := by decide +kernel
theorem dX10_weighOne_28 : decode cX10_weighOne 28 = .ok (.getfield 50, 3) := by decide +kernel
theorem dX10_weighOne_31 : decode cX10_weighOne 31 = .ok (.iload_n 1, 1) := by decide +kernel
theorem dX10_weighOne_32 : decode cX10_weighOne 32 = .ok (.aload_n 0, 1) := by decide +kernel
theorem dX10_weighOne_33 : decode cX10_weighOne 33 = .ok (.getfield 34, 3) := by decide +kernel
theorem dX10_weighOne_36 : decode cX10_weighOne 36 = .ok (.iload_n 1, 1) := by decide +kernel
theorem dX10_weighOne_37 : decode cX10_weighOne 37 = .ok (.laload, 1) := by decide +kernel
theorem dX10_weighOne_38 : decode cX10_weighOne 38 = .ok (.aload_n 0, 1) := by decide +kernel
theorem dX10_weighOne_39 : decode cX10_weighOne 39 = .ok (.getfield 38, 3) := by decide +kernel
theorem dX10_weighOne_42 : decode cX10_weighOne 42 = .ok (.iload_n 1, 1) := by decide +kernel
theorem dX10_weighOne_43 : decode cX10_weighOne 43 = .ok (.laload, 1) := by decide +kernel
theorem dX10_weighOne_44 : decode cX10_weighOne 44 = .ok (.lmul, 1) := by decide +kernel
theorem dX10_weighOne_45 : decode cX10_weighOne 45 = .ok (.lastore, 1) := by decide +kernel
theorem dX10_weighOne_46 : decode cX10_weighOne 46 = .ok (.iinc 1 1, 3) := by decide +kernel
theorem dX10_weighOne_49 : decode cX10_weighOne 49 = .ok (.goto (-33), 3) := by decide +kernel
theorem dX10_weighOne_52 : decode cX10_weighOne 52 = .ok (.aload_n 0, 1) := by decide +kernel
theorem dX10_weighOne_53 : decode cX10_weighOne 53 = .ok (.aload_n 0, 1) := by decide +kernel
theorem dX10_weighOne_54 : decode cX10_weighOne 54 = .ok (.getfield 47, 3) := by decide +kernel
theorem dX10_weighOne_57 : decode cX10_weighOne 57 = .ok (.putfield 53, 3) := by decide +kernel
theorem dX10_weighOne_60 : decode cX10_weighOne 60 = .ok (.return_, 1) := by decide +kernel
theorem dX10_weighOdds_0 : decode cX10_weighOdds 0 = .ok (.aload_n 0, 1) := by decide +kernel
theorem dX10_weighOdds_1 : decode cX10_weighOdds 1 = .ok (.getfield 30, 3) := by decide +kernel
theorem dX10_weighOdds_4 : decode cX10_weighOdds 4 = .ok (.aload_n 0, 1) := by decide +kernel
theorem dX10_weighOdds_5 : decode cX10_weighOdds 5 = .ok (.getfield 59, 3) := by decide +kernel
theorem dX10_weighOdds_8 : decode cX10_weighOdds 8 = .ok (.getfield 79, 3) := by decide +kernel
theorem dX10_weighOdds_11 : decode cX10_weighOdds 11 = .ok (.i2l, 1) := by decide +kernel
theorem dX10_weighOdds_12 : decode cX10_weighOdds 12 = .ok (.lmul, 1) := by decide +kernel
theorem dX10_weighOdds_13 : decode cX10_weighOdds 13 = .ok (.lstore_n 1, 1) := by decide +kernel
theorem dX10_weighOdds_14 : decode cX10_weighOdds 14 = .ok (.ldc2_w 133, 3) := by decide +kernel
theorem dX10_weighOdds_17 : decode cX10_weighOdds 17 = .ok (.aload_n 0, 1) := by decide +kernel
theorem dX10_weighOdds_18 : decode cX10_weighOdds 18 = .ok (.getfield 30, 3) := by decide +kernel
theorem dX10_weighOdds_21 : decode cX10_weighOdds 21 = .ok (.lsub, 1) := by decide +kernel
theorem dX10_weighOdds_22 : decode cX10_weighOdds 22 = .ok (.aload_n 0, 1) := by decide +kernel
theorem dX10_weighOdds_23 : decode cX10_weighOdds 23 = .ok (.getfield 44, 3) := by decide +kernel
theorem dX10_weighOdds_26 : decode cX10_weighOdds 26 = .ok (.lmul, 1) := by decide +kernel
theorem dX10_weighOdds_27 : decode cX10_weighOdds 27 = .ok (.lstore_n 3, 1) := by decide +kernel
theorem dX10_weighOdds_28 : decode cX10_weighOdds 28 = .ok (.aload_n 0, 1) := by decide +kernel
theorem dX10_weighOdds_29 : decode cX10_weighOdds 29 = .ok (.lload_n 1, 1) := by decide +kernel
theorem dX10_weighOdds_30 : decode cX10_weighOdds 30 = .ok (.aload_n 0, 1) := by decide +kernel
theorem dX10_weighOdds_31 : decode cX10_weighOdds 31 = .ok (.getfield 47, 3) := by decide +kernel
theorem dX10_weighOdds_34 : decode cX10_weighOdds 34 = .ok (.lmul, 1) := by decide +kernel
theorem dX10_weighOdds_35 : decode cX10_weighOdds 35 = .ok (.lload_n 3, 1) := by decide +kernel
theorem dX10_weighOdds_36 : decode cX10_weighOdds 36 = .ok (.aload_n 0, 1) := by decide +kernel
theorem dX10_weighOdds_37 : decode cX10_weighOdds 37 = .ok (.getfield 41, 3) := by decide +kernel
theorem dX10_weighOdds_40 : decode cX10_weighOdds 40 = .ok (.lmul, 1) := by decide +kernel
theorem dX10_weighOdds_41 : decode cX10_weighOdds 41 = .ok (.ladd, 1) := by decide +kernel
theorem dX10_weighOdds_42 : decode cX10_weighOdds 42 = .ok (.putfield 53, 3) := by decide +kernel
theorem dX10_weighOdds_45 : decode cX10_weighOdds 45 = .ok (.aload_n 0, 1) := by decide +kernel
theorem dX10_weighOdds_46 : decode cX10_weighOdds 46 = .ok (.getfield 53, 3) := by decide +kernel
theorem dX10_weighOdds_49 : decode cX10_weighOdds 49 = .ok (.lconst 0, 1) := by decide +kernel
theorem dX10_weighOdds_50 : decode cX10_weighOdds 50 = .ok (.lcmp, 1) := by decide +kernel
theorem dX10_weighOdds_51 : decode cX10_weighOdds 51 = .ok (.ifCond .ne 8, 3) := by decide +kernel
theorem dX10_weighOdds_54 : decode cX10_weighOdds 54 = .ok (.aload_n 0, 1) := by decide +kernel
theorem dX10_weighOdds_55 : decode cX10_weighOdds 55 = .ok (.invokevirtual 126, 3) := by decide +kernel
theorem dX10_weighOdds_58 : decode cX10_weighOdds 58 = .ok (.return_, 1) := by decide +kernel
theorem dX10_weighOdds_59 : decode cX10_weighOdds 59 = .ok (.iconst 0, 1) := by decide +kernel
theorem dX10_weighOdds_60 : decode cX10_weighOdds 60 = .ok (.istore 5, 2) := by decide +kernel
theorem dX10_weighOdds_62 : decode cX10_weighOdds 62 = .ok (.iload 5, 2) := by decide +kernel
theorem dX10_weighOdds_64 : decode cX10_weighOdds 64 = .ok (.aload_n 0, 1) := by decide +kernel
theorem dX10_weighOdds_65 : decode cX10_weighOdds 65 = .ok (.getfield 59, 3) := by decide +kernel
theorem dX10_weighOdds_68 : decode cX10_weighOdds 68 = .ok (.getfield 79, 3) := by decide +kernel
theorem dX10_weighOdds_71 : decode cX10_weighOdds 71 = .ok (.if_icmp .ge 35, 3) := by decide +kernel
theorem dX10_weighOdds_74 : decode cX10_weighOdds 74 = .ok (.aload_n 0, 1) := by decide +kernel
theorem dX10_weighOdds_75 : decode cX10_weighOdds 75 = .ok (.getfield 50, 3) := by decide +kernel
theorem dX10_weighOdds_78 : decode cX10_weighOdds 78 = .ok (.iload 5, 2) := by decide +kernel
theorem dX10_weighOdds_80 : decode cX10_weighOdds 80 = .ok (.aload_n 0, 1) := by decide +kernel
theorem dX10_weighOdds_81 : decode cX10_weighOdds 81 = .ok (.getfield 34, 3) := by decide +kernel
theorem dX10_weighOdds_84 : decode cX10_weighOdds 84 = .ok (.iload 5, 2) := by decide +kernel
theorem dX10_weighOdds_86 : decode cX10_weighOdds 86 = .ok (.laload, 1) := by decide +kernel
theorem dX10_weighOdds_87 : decode cX10_weighOdds 87 = .ok (.lload_n 1, 1) := by decide +kernel
theorem dX10_weighOdds_88 : decode cX10_weighOdds 88 = .ok (.aload_n 0, 1) := by decide +kernel
theorem dX10_weighOdds_89 : decode cX10_weighOdds 89 = .ok (.getfield 38, 3) := by decide +kernel
theorem dX10_weighOdds_92 : decode cX10_weighOdds 92 = .ok (.iload 5, 2) := by decide +kernel
theorem dX10_weighOdds_94 : decode cX10_weighOdds 94 = .ok (.laload, 1) := by decide +kernel
theorem dX10_weighOdds_95 : decode cX10_weighOdds 95 = .ok (.lmul, 1) := by decide +kernel
theorem dX10_weighOdds_96 : decode cX10_weighOdds 96 = .ok (.lload_n 3, 1) := by decide +kernel
theorem dX10_weighOdds_97 : decode cX10_weighOdds 97 = .ok (.ladd, 1) := by decide +kernel
theorem dX10_weighOdds_98 : decode cX10_weighOdds 98 = .ok (.lmul, 1) := by decide +kernel
theorem dX10_weighOdds_99 : decode cX10_weighOdds 99 = .ok (.lastore, 1) := by decide +kernel
theorem dX10_weighOdds_100 : decode cX10_weighOdds 100 = .ok (.iinc 5 1, 3) := by decide +kernel
theorem dX10_weighOdds_103 : decode cX10_weighOdds 103 = .ok (.goto (-41), 3) := by decide +kernel
theorem dX10_weighOdds_106 : decode cX10_weighOdds 106 = .ok (.return_, 1) := by decide +kernel
theorem dX5_learntOf_0 : decode cX5_learntOf 0 = .ok (.iconst 0, 1) := by decide +kernel
theorem dX5_learntOf_1 : decode cX5_learntOf 1 = .ok (.istore_n 3, 1) := by decide +kernel
theorem dX5_learntOf_2 : decode cX5_learntOf 2 = .ok (.iload_n 3, 1) := by decide +kernel
theorem dX5_learntOf_3 : decode cX5_learntOf 3 = .ok (.aload_n 0, 1) := by decide +kernel
theorem dX5_learntOf_4 : decode cX5_learntOf 4 = .ok (.getfield 49, 3) := by decide +kernel
theorem dX5_learntOf_7 : decode cX5_learntOf 7 = .ok (.if_icmp .ge 31, 3) := by decide +kernel
theorem dX5_learntOf_10 : decode cX5_learntOf 10 = .ok (.aload_n 0, 1) := by decide +kernel
theorem dX5_learntOf_11 : decode cX5_learntOf 11 = .ok (.getfield 21, 3) := by decide +kernel
theorem dX5_learntOf_14 : decode cX5_learntOf 14 = .ok (.iload_n 3, 1) := by decide +kernel
theorem dX5_learntOf_15 : decode cX5_learntOf 15 = .ok (.iaload, 1) := by decide +kernel
theorem dX5_learntOf_16 : decode cX5_learntOf 16 = .ok (.iload_n 1, 1) := by decide +kernel
theorem dX5_learntOf_17 : decode cX5_learntOf 17 = .ok (.bipush 10, 2) := by decide +kernel
theorem dX5_learntOf_19 : decode cX5_learntOf 19 = .ok (.imul, 1) := by decide +kernel
theorem dX5_learntOf_20 : decode cX5_learntOf 20 = .ok (.iload_n 2, 1) := by decide +kernel
theorem dX5_learntOf_21 : decode cX5_learntOf 21 = .ok (.iadd, 1) := by decide +kernel
theorem dX5_learntOf_22 : decode cX5_learntOf 22 = .ok (.if_icmp .ne 10, 3) := by decide +kernel
theorem dX5_learntOf_25 : decode cX5_learntOf 25 = .ok (.aload_n 0, 1) := by decide +kernel
theorem dX5_learntOf_26 : decode cX5_learntOf 26 = .ok (.getfield 24, 3) := by decide +kernel
theorem dX5_learntOf_29 : decode cX5_learntOf 29 = .ok (.iload_n 3, 1) := by decide +kernel
theorem dX5_learntOf_30 : decode cX5_learntOf 30 = .ok (.iaload, 1) := by decide +kernel
theorem dX5_learntOf_31 : decode cX5_learntOf 31 = .ok (.ireturn, 1) := by decide +kernel
theorem dX5_learntOf_32 : decode cX5_learntOf 32 = .ok (.iinc 3 1, 3) := by decide +kernel
theorem dX5_learntOf_35 : decode cX5_learntOf 35 = .ok (.goto (-33), 3) := by decide +kernel
theorem dX5_learntOf_38 : decode cX5_learntOf 38 = .ok (.iconst (-1), 1) := by decide +kernel
theorem dX5_learntOf_39 : decode cX5_learntOf 39 = .ok (.ireturn, 1) := by decide +kernel
theorem dX10_weighSingle_0 : decode cX10_weighSingle 0 = .ok (.iconst 0, 1) := by decide +kernel
theorem dX10_weighSingle_1 : decode cX10_weighSingle 1 = .ok (.istore_n 2, 1) := by decide +kernel
theorem dX10_weighSingle_2 : decode cX10_weighSingle 2 = .ok (.iload_n 2, 1) := by decide +kernel
theorem dX10_weighSingle_3 : decode cX10_weighSingle 3 = .ok (.aload_n 0, 1) := by decide +kernel
theorem dX10_weighSingle_4 : decode cX10_weighSingle 4 = .ok (.getfield 59, 3) := by decide +kernel
theorem dX10_weighSingle_7 : decode cX10_weighSingle 7 = .ok (.getfield 79, 3) := by decide +kernel
theorem dX10_weighSingle_10 : decode cX10_weighSingle 10 = .ok (.if_icmp .ge 25, 3) := by decide +kernel
theorem dX10_weighSingle_13 : decode cX10_weighSingle 13 = .ok (.aload_n 0, 1) := by decide +kernel
theorem dX10_weighSingle_14 : decode cX10_weighSingle 14 = .ok (.getfield 50, 3) := by decide +kernel
theorem dX10_weighSingle_17 : decode cX10_weighSingle 17 = .ok (.iload_n 2, 1) := by decide +kernel
theorem dX10_weighSingle_18 : decode cX10_weighSingle 18 = .ok (.iload_n 2, 1) := by decide +kernel
theorem dX10_weighSingle_19 : decode cX10_weighSingle 19 = .ok (.iload_n 1, 1) := by decide +kernel
theorem dX10_weighSingle_20 : decode cX10_weighSingle 20 = .ok (.if_icmp .ne 7, 3) := by decide +kernel
theorem dX10_weighSingle_23 : decode cX10_weighSingle 23 = .ok (.lconst 1, 1) := by decide +kernel
theorem dX10_weighSingle_24 : decode cX10_weighSingle 24 = .ok (.goto 4, 3) := by decide +kernel
theorem dX10_weighSingle_27 : decode cX10_weighSingle 27 = .ok (.lconst 0, 1) := by decide +kernel
theorem dX10_weighSingle_28 : decode cX10_weighSingle 28 = .ok (.lastore, 1) := by decide +kernel
theorem dX10_weighSingle_29 : decode cX10_weighSingle 29 = .ok (.iinc 2 1, 3) := by decide +kernel
theorem dX10_weighSingle_32 : decode cX10_weighSingle 32 = .ok (.goto (-30), 3) := by decide +kernel
theorem dX10_weighSingle_35 : decode cX10_weighSingle 35 = .ok (.aload_n 0, 1) := by decide +kernel
theorem dX10_weighSingle_36 : decode cX10_weighSingle 36 = .ok (.lconst 1, 1) := by decide +kernel
theorem dX10_weighSingle_37 : decode cX10_weighSingle 37 = .ok (.putfield 53, 3) := by decide +kernel
theorem dX10_weighSingle_40 : decode cX10_weighSingle 40 = .ok (.return_, 1) := by decide +kernel
theorem dX10_weighLearnt_0 : decode cX10_weighLearnt 0 = .ok (.aload_n 0, 1) := by decide +kernel
theorem dX10_weighLearnt_1 : decode cX10_weighLearnt 1 = .ok (.getfield 59, 3) := by decide +kernel
theorem dX10_weighLearnt_4 : decode cX10_weighLearnt 4 = .ok (.aload_n 0, 1) := by decide +kernel
theorem dX10_weighLearnt_5 : decode cX10_weighLearnt 5 = .ok (.getfield 9, 3) := by decide +kernel
theorem dX10_weighLearnt_8 : decode cX10_weighLearnt 8 = .ok (.aload_n 0, 1) := by decide +kernel
theorem dX10_weighLearnt_9 : decode cX10_weighLearnt 9 = .ok (.getfield 15, 3) := by decide +kernel
theorem dX10_weighLearnt_12 : decode cX10_weighLearnt 12 = .ok (.invokevirtual 135, 3) := by decide +kernel
theorem dX10_weighLearnt_15 : decode cX10_weighLearnt 15 = .ok (.istore_n 1, 1) := by decide +kernel
theorem dX10_weighLearnt_16 : decode cX10_weighLearnt 16 = .ok (.iload_n 1, 1) := by decide +kernel
theorem dX10_weighLearnt_17 : decode cX10_weighLearnt 17 = .ok (.iconst (-1), 1) := by decide +kernel
theorem dX10_weighLearnt_18 : decode cX10_weighLearnt 18 = .ok (.if_icmp .ne 10, 3) := by decide +kernel
theorem dX10_weighLearnt_21 : decode cX10_weighLearnt 21 = .ok (.aload_n 0, 1) := by decide +kernel
theorem dX10_weighLearnt_22 : decode cX10_weighLearnt 22 = .ok (.invokevirtual 112, 3) := by decide +kernel
theorem dX10_weighLearnt_25 : decode cX10_weighLearnt 25 = .ok (.goto 8, 3) := by decide +kernel
theorem dX10_weighLearnt_28 : decode cX10_weighLearnt 28 = .ok (.aload_n 0, 1) := by decide +kernel
theorem dX10_weighLearnt_29 : decode cX10_weighLearnt 29 = .ok (.iload_n 1, 1) := by decide +kernel
theorem dX10_weighLearnt_30 : decode cX10_weighLearnt 30 = .ok (.invokevirtual 122, 3) := by decide +kernel
theorem dX10_weighLearnt_33 : decode cX10_weighLearnt 33 = .ok (.return_, 1) := by decide +kernel
theorem dX10_soundBetween_0 : decode cX10_soundBetween 0 = .ok (.iconst 1, 1) := by decide +kernel
theorem dX10_soundBetween_1 : decode cX10_soundBetween 1 = .ok (.aload_n 0, 1) := by decide +kernel
theorem dX10_soundBetween_2 : decode cX10_soundBetween 2 = .ok (.getfield 24, 3) := by decide +kernel
theorem dX10_soundBetween_5 : decode cX10_soundBetween 5 = .ok (.aload_n 0, 1) := by decide +kernel
theorem dX10_soundBetween_6 : decode cX10_soundBetween 6 = .ok (.getfield 27, 3) := by decide +kernel
theorem dX10_soundBetween_9 : decode cX10_soundBetween 9 = .ok (.iadd, 1) := by decide +kernel
theorem dX10_soundBetween_10 : decode cX10_soundBetween 10 = .ok (.invokestatic 69, 3) := by decide +kernel
theorem dX10_soundBetween_13 : decode cX10_soundBetween 13 = .ok (.istore_n 1, 1) := by decide +kernel
theorem dX10_soundBetween_14 : decode cX10_soundBetween 14 = .ok (.aload_n 0, 1) := by decide +kernel
theorem dX10_soundBetween_15 : decode cX10_soundBetween 15 = .ok (.getfield 59, 3) := by decide +kernel
theorem dX10_soundBetween_18 : decode cX10_soundBetween 18 = .ok (.getfield 82, 3) := by decide +kernel
theorem dX10_soundBetween_21 : decode cX10_soundBetween 21 = .ok (.aload_n 0, 1) := by decide +kernel
theorem dX10_soundBetween_22 : decode cX10_soundBetween 22 = .ok (.getfield 9, 3) := by decide +kernel
theorem dX10_soundBetween_25 : decode cX10_soundBetween 25 = .ok (.iaload, 1) := by decide +kernel
theorem dX10_soundBetween_26 : decode cX10_soundBetween 26 = .ok (.aload_n 0, 1) := by decide +kernel
theorem dX10_soundBetween_27 : decode cX10_soundBetween 27 = .ok (.getfield 27, 3) := by decide +kernel
theorem dX10_soundBetween_30 : decode cX10_soundBetween 30 = .ok (.imul, 1) := by decide +kernel
theorem dX10_soundBetween_31 : decode cX10_soundBetween 31 = .ok (.aload_n 0, 1) := by decide +kernel
theorem dX10_soundBetween_32 : decode cX10_soundBetween 32 = .ok (.getfield 59, 3) := by decide +kernel
theorem dX10_soundBetween_35 : decode cX10_soundBetween 35 = .ok (.getfield 82, 3) := by decide +kernel
theorem dX10_soundBetween_38 : decode cX10_soundBetween 38 = .ok (.aload_n 0, 1) := by decide +kernel
theorem dX10_soundBetween_39 : decode cX10_soundBetween 39 = .ok (.getfield 15, 3) := by decide +kernel
theorem dX10_soundBetween_42 : decode cX10_soundBetween 42 = .ok (.iaload, 1) := by decide +kernel
theorem dX10_soundBetween_43 : decode cX10_soundBetween 43 = .ok (.aload_n 0, 1) := by decide +kernel
theorem dX10_soundBetween_44 : decode cX10_soundBetween 44 = .ok (.getfield 24, 3) := by decide +kernel
theorem dX10_soundBetween_47 : decode cX10_soundBetween 47 = .ok (.imul, 1) := by decide +kernel
theorem dX10_soundBetween_48 : decode cX10_soundBetween 48 = .ok (.iadd, 1) := by decide +kernel
theorem dX10_soundBetween_49 : decode cX10_soundBetween 49 = .ok (.iload_n 1, 1) := by decide +kernel
theorem dX10_soundBetween_50 : decode cX10_soundBetween 50 = .ok (.idiv, 1) := by decide +kernel
theorem dX10_soundBetween_51 : decode cX10_soundBetween 51 = .ok (.istore_n 2, 1) := by decide +kernel
theorem dX10_soundBetween_52 : decode cX10_soundBetween 52 = .ok (.iconst 0, 1) := by decide +kernel
theorem dX10_soundBetween_53 : decode cX10_soundBetween 53 = .ok (.istore_n 3, 1) := by decide +kernel
theorem dX10_soundBetween_54 : decode cX10_soundBetween 54 = .ok (.iconst 1, 1) := by decide +kernel
theorem dX10_soundBetween_55 : decode cX10_soundBetween 55 = .ok (.istore 4, 2) := by decide +kernel
theorem dX10_soundBetween_57 : decode cX10_soundBetween 57 = .ok (.iload 4, 2) := by decide +kernel
theorem dX10_soundBetween_59 : decode cX10_soundBetween 59 = .ok (.aload_n 0, 1) := by decide +kernel
theorem dX10_soundBetween_60 : decode cX10_soundBetween 60 = .ok (.getfield 59, 3) := by decide +kernel
theorem dX10_soundBetween_63 : decode cX10_soundBetween 63 = .ok (.getfield 79, 3) := by decide +kernel
theorem dX10_soundBetween_66 : decode cX10_soundBetween 66 = .ok (.if_icmp .ge 52, 3) := by decide +kernel
theorem dX10_soundBetween_69 : decode cX10_soundBetween 69 = .ok (.aload_n 0, 1) := by decide +kernel
theorem dX10_soundBetween_70 : decode cX10_soundBetween 70 = .ok (.iload 4, 2) := by decide +kernel
theorem dX10_soundBetween_72 : decode cX10_soundBetween 72 = .ok (.iload_n 2, 1) := by decide +kernel
theorem dX10_soundBetween_73 : decode cX10_soundBetween 73 = .ok (.aload_n 0, 1) := by decide +kernel
theorem dX10_soundBetween_74 : decode cX10_soundBetween 74 = .ok (.getfield 59, 3) := by decide +kernel
theorem dX10_soundBetween_77 : decode cX10_soundBetween 77 = .ok (.getfield 93, 3) := by decide +kernel
theorem dX10_soundBetween_80 : decode cX10_soundBetween 80 = .ok (.aload_n 0, 1) := by decide +kernel
theorem dX10_soundBetween_81 : decode cX10_soundBetween 81 = .ok (.getfield 9, 3) := by decide +kernel
theorem dX10_soundBetween_84 : decode cX10_soundBetween 84 = .ok (.iaload, 1) := by decide +kernel
theorem dX10_soundBetween_85 : decode cX10_soundBetween 85 = .ok (.invokevirtual 96, 3) := by decide +kernel
theorem dX10_soundBetween_88 : decode cX10_soundBetween 88 = .ok (.aload_n 0, 1) := by decide +kernel
theorem dX10_soundBetween_89 : decode cX10_soundBetween 89 = .ok (.iload_n 3, 1) := by decide +kernel
theorem dX10_soundBetween_90 : decode cX10_soundBetween 90 = .ok (.iload_n 2, 1) := by decide +kernel
theorem dX10_soundBetween_91 : decode cX10_soundBetween 91 = .ok (.aload_n 0, 1) := by decide +kernel
theorem dX10_soundBetween_92 : decode cX10_soundBetween 92 = .ok (.getfield 59, 3) := by decide +kernel
theorem dX10_soundBetween_95 : decode cX10_soundBetween 95 = .ok (.getfield 93, 3) := by decide +kernel
theorem dX10_soundBetween_98 : decode cX10_soundBetween 98 = .ok (.aload_n 0, 1) := by decide +kernel
theorem dX10_soundBetween_99 : decode cX10_soundBetween 99 = .ok (.getfield 9, 3) := by decide +kernel
theorem dX10_soundBetween_102 : decode cX10_soundBetween 102 = .ok (.iaload, 1) := by decide +kernel
theorem dX10_soundBetween_103 : decode cX10_soundBetween 103 = .ok (.invokevirtual 96, 3) := by decide +kernel
theorem dX10_soundBetween_106 : decode cX10_soundBetween 106 = .ok (.if_icmp .ge 6, 3) := by decide +kernel
theorem dX10_soundBetween_109 : decode cX10_soundBetween 109 = .ok (.iload 4, 2) := by decide +kernel
theorem dX10_soundBetween_111 : decode cX10_soundBetween 111 = .ok (.istore_n 3, 1) := by decide +kernel
theorem dX10_soundBetween_112 : decode cX10_soundBetween 112 = .ok (.iinc 4 1, 3) := by decide +kernel
theorem dX10_soundBetween_115 : decode cX10_soundBetween 115 = .ok (.goto (-58), 3) := by decide +kernel
theorem dX10_soundBetween_118 : decode cX10_soundBetween 118 = .ok (.iload_n 3, 1) := by decide +kernel
theorem dX10_soundBetween_119 : decode cX10_soundBetween 119 = .ok (.ireturn, 1) := by decide +kernel
theorem dX10_weigh_0 : decode cX10_weigh 0 = .ok (.iload_n 1, 1) := by decide +kernel
theorem dX10_weigh_1 : decode cX10_weigh 1 = .ok (.tableswitch 85 1 6 #[39, 46, 53, 60, 67, 74], 39) := by decide +kernel
theorem dX10_weigh_40 : decode cX10_weigh 40 = .ok (.aload_n 0, 1) := by decide +kernel
theorem dX10_weigh_41 : decode cX10_weigh 41 = .ok (.invokevirtual 103, 3) := by decide +kernel
theorem dX10_weigh_44 : decode cX10_weigh 44 = .ok (.goto 46, 3) := by decide +kernel
theorem dX10_weigh_47 : decode cX10_weigh 47 = .ok (.aload_n 0, 1) := by decide +kernel
theorem dX10_weigh_48 : decode cX10_weigh 48 = .ok (.invokevirtual 106, 3) := by decide +kernel
theorem dX10_weigh_51 : decode cX10_weigh 51 = .ok (.goto 39, 3) := by decide +kernel
theorem dX10_weigh_54 : decode cX10_weigh 54 = .ok (.aload_n 0, 1) := by decide +kernel
theorem dX10_weigh_55 : decode cX10_weigh 55 = .ok (.invokevirtual 109, 3) := by decide +kernel
theorem dX10_weigh_58 : decode cX10_weigh 58 = .ok (.goto 32, 3) := by decide +kernel
theorem dX10_weigh_61 : decode cX10_weigh 61 = .ok (.aload_n 0, 1) := by decide +kernel
theorem dX10_weigh_62 : decode cX10_weigh 62 = .ok (.invokevirtual 112, 3) := by decide +kernel
theorem dX10_weigh_65 : decode cX10_weigh 65 = .ok (.goto 25, 3) := by decide +kernel
theorem dX10_weigh_68 : decode cX10_weigh 68 = .ok (.aload_n 0, 1) := by decide +kernel
theorem dX10_weigh_69 : decode cX10_weigh 69 = .ok (.invokevirtual 115, 3) := by decide +kernel
theorem dX10_weigh_72 : decode cX10_weigh 72 = .ok (.goto 18, 3) := by decide +kernel
theorem dX10_weigh_75 : decode cX10_weigh 75 = .ok (.aload_n 0, 1) := by decide +kernel
theorem dX10_weigh_76 : decode cX10_weigh 76 = .ok (.aload_n 0, 1) := by decide +kernel
theorem dX10_weigh_77 : decode cX10_weigh 77 = .ok (.invokevirtual 118, 3) := by decide +kernel
theorem dX10_weigh_80 : decode cX10_weigh 80 = .ok (.invokevirtual 122, 3) := by decide +kernel
theorem dX10_weigh_83 : decode cX10_weigh 83 = .ok (.goto 7, 3) := by decide +kernel
theorem dX10_weigh_86 : decode cX10_weigh 86 = .ok (.aload_n 0, 1) := by decide +kernel
theorem dX10_weigh_87 : decode cX10_weigh 87 = .ok (.invokevirtual 126, 3) := by decide +kernel
theorem dX10_weigh_90 : decode cX10_weigh 90 = .ok (.return_, 1) := by decide +kernel
theorem dX11_weighs_0 : decode cX11_weighs 0 = .ok (.iload_n 1, 1) := by decide +kernel
theorem dX11_weighs_1 : decode cX11_weighs 1 = .ok (.invokestatic 262, 3) := by decide +kernel
theorem dX11_weighs_4 : decode cX11_weighs 4 = .ok (.ifCond .eq 14, 3) := by decide +kernel
theorem dX11_weighs_7 : decode cX11_weighs 7 = .ok (.aload_n 0, 1) := by decide +kernel
theorem dX11_weighs_8 : decode cX11_weighs 8 = .ok (.iload_n 2, 1) := by decide +kernel
theorem dX11_weighs_9 : decode cX11_weighs 9 = .ok (.iload_n 3, 1) := by decide +kernel
theorem dX11_weighs_10 : decode cX11_weighs 10 = .ok (.iload 4, 2) := by decide +kernel
theorem dX11_weighs_12 : decode cX11_weighs 12 = .ok (.invokevirtual 225, 3) := by decide +kernel
theorem dX11_weighs_15 : decode cX11_weighs 15 = .ok (.ifCond .ne 5, 3) := by decide +kernel
theorem dX11_weighs_18 : decode cX11_weighs 18 = .ok (.iconst 0, 1) := by decide +kernel
theorem dX11_weighs_19 : decode cX11_weighs 19 = .ok (.ireturn, 1) := by decide +kernel
theorem dX11_weighs_20 : decode cX11_weighs 20 = .ok (.aload_n 0, 1) := by decide +kernel
theorem dX11_weighs_21 : decode cX11_weighs 21 = .ok (.iload_n 2, 1) := by decide +kernel
theorem dX11_weighs_22 : decode cX11_weighs 22 = .ok (.iload_n 3, 1) := by decide +kernel
theorem dX11_weighs_23 : decode cX11_weighs 23 = .ok (.iload 4, 2) := by decide +kernel
theorem dX11_weighs_25 : decode cX11_weighs 25 = .ok (.invokevirtual 229, 3) := by decide +kernel
theorem dX11_weighs_28 : decode cX11_weighs 28 = .ok (.aload_n 0, 1) := by decide +kernel
theorem dX11_weighs_29 : decode cX11_weighs 29 = .ok (.getfield 75, 3) := by decide +kernel
theorem dX11_weighs_32 : decode cX11_weighs 32 = .ok (.iload_n 1, 1) := by decide +kernel
theorem dX11_weighs_33 : decode cX11_weighs 33 = .ok (.invokevirtual 294, 3) := by decide +kernel
theorem dX11_weighs_36 : decode cX11_weighs 36 = .ok (.iconst 1, 1) := by decide +kernel
theorem dX11_weighs_37 : decode cX11_weighs 37 = .ok (.ireturn, 1) := by decide +kernel
theorem dX11_weight_0 : decode cX11_weight 0 = .ok (.iload 5, 2) := by decide +kernel
theorem dX11_weight_2 : decode cX11_weight 2 = .ok (.iconst (-1), 1) := by decide +kernel
theorem dX11_weight_3 : decode cX11_weight 3 = .ok (.if_icmp .eq 12, 3) := by decide +kernel
theorem dX11_weight_6 : decode cX11_weight 6 = .ok (.aload_n 0, 1) := by decide +kernel
theorem dX11_weight_7 : decode cX11_weight 7 = .ok (.iload 5, 2) := by decide +kernel
theorem dX11_weight_9 : decode cX11_weight 9 = .ok (.invokevirtual 142, 3) := by decide +kernel
theorem dX11_weight_12 : decode cX11_weight 12 = .ok (.ifCond .eq 7, 3) := by decide +kernel
theorem dX11_weight_15 : decode cX11_weight 15 = .ok (.iconst 1, 1) := by decide +kernel
theorem dX11_weight_16 : decode cX11_weight 16 = .ok (.goto 4, 3) := by decide +kernel
theorem dX11_weight_19 : decode cX11_weight 19 = .ok (.iconst 0, 1) := by decide +kernel
theorem dX11_weight_20 : decode cX11_weight 20 = .ok (.istore 6, 2) := by decide +kernel
theorem dX11_weight_22 : decode cX11_weight 22 = .ok (.iload 6, 2) := by decide +kernel
theorem dX11_weight_24 : decode cX11_weight 24 = .ok (.ifCond .eq 15, 3) := by decide +kernel
theorem dX11_weight_27 : decode cX11_weight 27 = .ok (.aload_n 0, 1) := by decide +kernel
theorem dX11_weight_28 : decode cX11_weight 28 = .ok (.iload_n 1, 1) := by decide +kernel
theorem dX11_weight_29 : decode cX11_weight 29 = .ok (.iload_n 2, 1) := by decide +kernel
theorem dX11_weight_30 : decode cX11_weight 30 = .ok (.iload_n 3, 1) := by decide +kernel
theorem dX11_weight_31 : decode cX11_weight 31 = .ok (.iload 4, 2) := by decide +kernel
theorem dX11_weight_33 : decode cX11_weight 33 = .ok (.invokevirtual 201, 3) := by decide +kernel
theorem dX11_weight_36 : decode cX11_weight 36 = .ok (.ifCond .ne 5, 3) := by decide +kernel
theorem dX11_weight_39 : decode cX11_weight 39 = .ok (.iconst (-1), 1) := by decide +kernel
theorem dX11_weight_40 : decode cX11_weight 40 = .ok (.ireturn, 1) := by decide +kernel
theorem dX11_weight_41 : decode cX11_weight 41 = .ok (.iload 5, 2) := by decide +kernel
theorem dX11_weight_43 : decode cX11_weight 43 = .ok (.iconst (-1), 1) := by decide +kernel
theorem dX11_weight_44 : decode cX11_weight 44 = .ok (.if_icmp .ne 13, 3) := by decide +kernel
theorem dX11_weight_47 : decode cX11_weight 47 = .ok (.aload_n 0, 1) := by decide +kernel
theorem dX11_weight_48 : decode cX11_weight 48 = .ok (.getfield 75, 3) := by decide +kernel
theorem dX11_weight_51 : decode cX11_weight 51 = .ok (.getfield 205, 3) := by decide +kernel
theorem dX11_weight_54 : decode cX11_weight 54 = .ok (.goto 13, 3) := by decide +kernel
theorem dX11_weight_57 : decode cX11_weight 57 = .ok (.aload_n 0, 1) := by decide +kernel
theorem dX11_weight_58 : decode cX11_weight 58 = .ok (.getfield 75, 3) := by decide +kernel
theorem dX11_weight_61 : decode cX11_weight 61 = .ok (.getfield 208, 3) := by decide +kernel
theorem dX11_weight_64 : decode cX11_weight 64 = .ok (.iload 5, 2) := by decide +kernel
theorem dX11_weight_66 : decode cX11_weight 66 = .ok (.laload, 1) := by decide +kernel
theorem dX11_weight_67 : decode cX11_weight 67 = .ok (.l2i, 1) := by decide +kernel
theorem dX11_weight_68 : decode cX11_weight 68 = .ok (.ireturn, 1) := by decide +kernel
theorem dX11_ofThousand_0 : decode cX11_ofThousand 0 = .ok (.lload_n 2, 1) := by decide +kernel
theorem dX11_ofThousand_1 : decode cX11_ofThousand 1 = .ok (.lconst 0, 1) := by decide +kernel
theorem dX11_ofThousand_2 : decode cX11_ofThousand 2 = .ok (.lcmp, 1) := by decide +kernel
theorem dX11_ofThousand_3 : decode cX11_ofThousand 3 = .ok (.ifCond .gt 7, 3) := by decide +kernel
theorem dX11_ofThousand_6 : decode cX11_ofThousand 6 = .ok (.iconst 0, 1) := by decide +kernel
theorem dX11_ofThousand_7 : decode cX11_ofThousand 7 = .ok (.goto 11, 3) := by decide +kernel
theorem dX11_ofThousand_10 : decode cX11_ofThousand 10 = .ok (.lload_n 0, 1) := by decide +kernel
theorem dX11_ofThousand_11 : decode cX11_ofThousand 11 = .ok (.ldc2_w 339, 3) := by decide +kernel
theorem dX11_ofThousand_14 : decode cX11_ofThousand 14 = .ok (.lmul, 1) := by decide +kernel
theorem dX11_ofThousand_15 : decode cX11_ofThousand 15 = .ok (.lload_n 2, 1) := by decide +kernel
theorem dX11_ofThousand_16 : decode cX11_ofThousand 16 = .ok (.ldiv, 1) := by decide +kernel
theorem dX11_ofThousand_17 : decode cX11_ofThousand 17 = .ok (.l2i, 1) := by decide +kernel
theorem dX11_ofThousand_18 : decode cX11_ofThousand 18 = .ok (.ireturn, 1) := by decide +kernel
theorem dX10_chanceOf_0 : decode cX10_chanceOf 0 = .ok (.aload_n 0, 1) := by decide +kernel
theorem dX10_chanceOf_1 : decode cX10_chanceOf 1 = .ok (.getfield 50, 3) := by decide +kernel
theorem dX10_chanceOf_4 : decode cX10_chanceOf 4 = .ok (.iload_n 1, 1) := by decide +kernel
theorem dX10_chanceOf_5 : decode cX10_chanceOf 5 = .ok (.laload, 1) := by decide +kernel
theorem dX10_chanceOf_6 : decode cX10_chanceOf 6 = .ok (.aload_n 0, 1) := by decide +kernel
theorem dX10_chanceOf_7 : decode cX10_chanceOf 7 = .ok (.getfield 53, 3) := by decide +kernel
theorem dX10_chanceOf_10 : decode cX10_chanceOf 10 = .ok (.invokestatic 141, 3) := by decide +kernel
theorem dX10_chanceOf_13 : decode cX10_chanceOf 13 = .ok (.ireturn, 1) := by decide +kernel
theorem dX11_chance_0 : decode cX11_chance 0 = .ok (.aload_n 0, 1) := by decide +kernel
theorem dX11_chance_1 : decode cX11_chance 1 = .ok (.iload 5, 2) := by decide +kernel
theorem dX11_chance_3 : decode cX11_chance 3 = .ok (.invokevirtual 142, 3) := by decide +kernel
theorem dX11_chance_6 : decode cX11_chance 6 = .ok (.ifCond .eq 15, 3) := by decide +kernel
theorem dX11_chance_9 : decode cX11_chance 9 = .ok (.aload_n 0, 1) := by decide +kernel
theorem dX11_chance_10 : decode cX11_chance 10 = .ok (.iload_n 1, 1) := by decide +kernel
theorem dX11_chance_11 : decode cX11_chance 11 = .ok (.iload_n 2, 1) := by decide +kernel
theorem dX11_chance_12 : decode cX11_chance 12 = .ok (.iload_n 3, 1) := by decide +kernel
theorem dX11_chance_13 : decode cX11_chance 13 = .ok (.iload 4, 2) := by decide +kernel
theorem dX11_chance_15 : decode cX11_chance 15 = .ok (.invokevirtual 201, 3) := by decide +kernel
theorem dX11_chance_18 : decode cX11_chance 18 = .ok (.ifCond .ne 5, 3) := by decide +kernel
theorem dX11_chance_21 : decode cX11_chance 21 = .ok (.iconst (-1), 1) := by decide +kernel
theorem dX11_chance_22 : decode cX11_chance 22 = .ok (.ireturn, 1) := by decide +kernel
theorem dX11_chance_23 : decode cX11_chance 23 = .ok (.aload_n 0, 1) := by decide +kernel
theorem dX11_chance_24 : decode cX11_chance 24 = .ok (.getfield 75, 3) := by decide +kernel
theorem dX11_chance_27 : decode cX11_chance 27 = .ok (.iload 5, 2) := by decide +kernel
theorem dX11_chance_29 : decode cX11_chance 29 = .ok (.invokevirtual 211, 3) := by decide +kernel
theorem dX11_chance_32 : decode cX11_chance 32 = .ok (.ireturn, 1) := by decide +kernel
theorem dX11_isKind_0 : decode cX11_isKind 0 = .ok (.iload_n 0, 1) := by decide +kernel
theorem dX11_isKind_1 : decode cX11_isKind 1 = .ok (.ifCond .lt 12, 3) := by decide +kernel
theorem dX11_isKind_4 : decode cX11_isKind 4 = .ok (.iload_n 0, 1) := by decide +kernel
theorem dX11_isKind_5 : decode cX11_isKind 5 = .ok (.iconst 3, 1) := by decide +kernel
theorem dX11_isKind_6 : decode cX11_isKind 6 = .ok (.if_icmp .gt 7, 3) := by decide +kernel
theorem dX11_isKind_9 : decode cX11_isKind 9 = .ok (.iconst 1, 1) := by decide +kernel
theorem dX11_isKind_10 : decode cX11_isKind 10 = .ok (.goto 4, 3) := by decide +kernel
theorem dX11_isKind_13 : decode cX11_isKind 13 = .ok (.iconst 0, 1) := by decide +kernel
theorem dX11_isKind_14 : decode cX11_isKind 14 = .ok (.ireturn, 1) := by decide +kernel
theorem dX11_kindOfSaid_0 : decode cX11_kindOfSaid 0 = .ok (.iload_n 0, 1) := by decide +kernel
theorem dX11_kindOfSaid_1 : decode cX11_kindOfSaid 1 = .ok (.iload_n 1, 1) := by decide +kernel
theorem dX11_kindOfSaid_2 : decode cX11_kindOfSaid 2 = .ok (.if_icmp .ne 14, 3) := by decide +kernel
theorem dX11_kindOfSaid_5 : decode cX11_kindOfSaid 5 = .ok (.iload_n 2, 1) := by decide +kernel
theorem dX11_kindOfSaid_6 : decode cX11_kindOfSaid 6 = .ok (.iload_n 0, 1) := by decide +kernel
theorem dX11_kindOfSaid_7 : decode cX11_kindOfSaid 7 = .ok (.if_icmp .ne 7, 3) := by decide +kernel
theorem dX11_kindOfSaid_10 : decode cX11_kindOfSaid 10 = .ok (.iconst 0, 1) := by decide +kernel
theorem dX11_kindOfSaid_11 : decode cX11_kindOfSaid 11 = .ok (.goto 4, 3) := by decide +kernel
theorem dX11_kindOfSaid_14 : decode cX11_kindOfSaid 14 = .ok (.iconst 3, 1) := by decide +kernel
theorem dX11_kindOfSaid_15 : decode cX11_kindOfSaid 15 = .ok (.ireturn, 1) := by decide +kernel
theorem dX11_kindOfSaid_16 : decode cX11_kindOfSaid 16 = .ok (.iload_n 2, 1) := by decide +kernel
theorem dX11_kindOfSaid_17 : decode cX11_kindOfSaid 17 = .ok (.iload_n 0, 1) := by decide +kernel
theorem dX11_kindOfSaid_18 : decode cX11_kindOfSaid 18 = .ok (.if_icmp .ne 5, 3) := by decide +kernel
theorem dX11_kindOfSaid_21 : decode cX11_kindOfSaid 21 = .ok (.iconst 1, 1) := by decide +kernel
theorem dX11_kindOfSaid_22 : decode cX11_kindOfSaid 22 = .ok (.ireturn, 1) := by decide +kernel
theorem dX11_kindOfSaid_23 : decode cX11_kindOfSaid 23 = .ok (.iload_n 2, 1) := by decide +kernel
theorem dX11_kindOfSaid_24 : decode cX11_kindOfSaid 24 = .ok (.iload_n 1, 1) := by decide +kernel
theorem dX11_kindOfSaid_25 : decode cX11_kindOfSaid 25 = .ok (.if_icmp .ne 7, 3) := by decide +kernel
theorem dX11_kindOfSaid_28 : decode cX11_kindOfSaid 28 = .ok (.iconst 2, 1) := by decide +kernel
theorem dX11_kindOfSaid_29 : decode cX11_kindOfSaid 29 = .ok (.goto 4, 3) := by decide +kernel
theorem dX11_kindOfSaid_32 : decode cX11_kindOfSaid 32 = .ok (.iconst 3, 1) := by decide +kernel
theorem dX11_kindOfSaid_33 : decode cX11_kindOfSaid 33 = .ok (.ireturn, 1) := by decide +kernel
theorem dX10_chanceOfKind_0 : decode cX10_chanceOfKind 0 = .ok (.lconst 0, 1) := by decide +kernel
theorem dX10_chanceOfKind_1 : decode cX10_chanceOfKind 1 = .ok (.lstore_n 2, 1) := by decide +kernel
theorem dX10_chanceOfKind_2 : decode cX10_chanceOfKind 2 = .ok (.iconst 0, 1) := by decide +kernel
theorem dX10_chanceOfKind_3 : decode cX10_chanceOfKind 3 = .ok (.istore 4, 2) := by decide +kernel
theorem dX10_chanceOfKind_5 : decode cX10_chanceOfKind 5 = .ok (.iload 4, 2) := by decide +kernel
theorem dX10_chanceOfKind_7 : decode cX10_chanceOfKind 7 = .ok (.aload_n 0, 1) := by decide +kernel
theorem dX10_chanceOfKind_8 : decode cX10_chanceOfKind 8 = .ok (.getfield 59, 3) := by decide +kernel
theorem dX10_chanceOfKind_11 : decode cX10_chanceOfKind 11 = .ok (.getfield 79, 3) := by decide +kernel
theorem dX10_chanceOfKind_14 : decode cX10_chanceOfKind 14 = .ok (.if_icmp .ge 36, 3) := by decide +kernel
theorem dX10_chanceOfKind_17 : decode cX10_chanceOfKind 17 = .ok (.aload_n 0, 1) := by decide +kernel
theorem dX10_chanceOfKind_18 : decode cX10_chanceOfKind 18 = .ok (.getfield 9, 3) := by decide +kernel
theorem dX10_chanceOfKind_21 : decode cX10_chanceOfKind 21 = .ok (.aload_n 0, 1) := by decide +kernel
theorem dX10_chanceOfKind_22 : decode cX10_chanceOfKind 22 = .ok (.getfield 15, 3) := by decide +kernel
theorem dX10_chanceOfKind_25 : decode cX10_chanceOfKind 25 = .ok (.iload 4, 2) := by decide +kernel
theorem dX10_chanceOfKind_27 : decode cX10_chanceOfKind 27 = .ok (.invokestatic 145, 3) := by decide +kernel
theorem dX10_chanceOfKind_30 : decode cX10_chanceOfKind 30 = .ok (.iload_n 1, 1) := by decide +kernel
theorem dX10_chanceOfKind_31 : decode cX10_chanceOfKind 31 = .ok (.if_icmp .ne 13, 3) := by decide +kernel
theorem dX10_chanceOfKind_34 : decode cX10_chanceOfKind 34 = .ok (.lload_n 2, 1) := by decide +kernel
theorem dX10_chanceOfKind_35 : decode cX10_chanceOfKind 35 = .ok (.aload_n 0, 1) := by decide +kernel
theorem dX10_chanceOfKind_36 : decode cX10_chanceOfKind 36 = .ok (.getfield 50, 3) := by decide +kernel
theorem dX10_chanceOfKind_39 : decode cX10_chanceOfKind 39 = .ok (.iload 4, 2) := by decide +kernel
theorem dX10_chanceOfKind_41 : decode cX10_chanceOfKind 41 = .ok (.laload, 1) := by decide +kernel
theorem dX10_chanceOfKind_42 : decode cX10_chanceOfKind 42 = .ok (.ladd, 1) := by decide +kernel
theorem dX10_chanceOfKind_43 : decode cX10_chanceOfKind 43 = .ok (.lstore_n 2, 1) := by decide +kernel
theorem dX10_chanceOfKind_44 : decode cX10_chanceOfKind 44 = .ok (.iinc 4 1, 3) := by decide +kernel
theorem dX10_chanceOfKind_47 : decode cX10_chanceOfKind 47 = .ok (.goto (-42), 3) := by decide +kernel
theorem dX10_chanceOfKind_50 : decode cX10_chanceOfKind 50 = .ok (.lload_n 2, 1) := by decide +kernel
theorem dX10_chanceOfKind_51 : decode cX10_chanceOfKind 51 = .ok (.aload_n 0, 1) := by decide +kernel
theorem dX10_chanceOfKind_52 : decode cX10_chanceOfKind 52 = .ok (.getfield 53, 3) := by decide +kernel
theorem dX10_chanceOfKind_55 : decode cX10_chanceOfKind 55 = .ok (.invokestatic 141, 3) := by decide +kernel
theorem dX10_chanceOfKind_58 : decode cX10_chanceOfKind 58 = .ok (.ireturn, 1) := by decide +kernel
theorem dX11_kind_0 : decode cX11_kind 0 = .ok (.iload 5, 2) := by decide +kernel
theorem dX11_kind_2 : decode cX11_kind 2 = .ok (.invokestatic 215, 3) := by decide +kernel
theorem dX11_kind_5 : decode cX11_kind 5 = .ok (.ifCond .eq 15, 3) := by decide +kernel
theorem dX11_kind_8 : decode cX11_kind 8 = .ok (.aload_n 0, 1) := by decide +kernel
theorem dX11_kind_9 : decode cX11_kind 9 = .ok (.iload_n 1, 1) := by decide +kernel
theorem dX11_kind_10 : decode cX11_kind 10 = .ok (.iload_n 2, 1) := by decide +kernel
theorem dX11_kind_11 : decode cX11_kind 11 = .ok (.iload_n 3, 1) := by decide +kernel
theorem dX11_kind_12 : decode cX11_kind 12 = .ok (.iload 4, 2) := by decide +kernel
theorem dX11_kind_14 : decode cX11_kind 14 = .ok (.invokevirtual 201, 3) := by decide +kernel
theorem dX11_kind_17 : decode cX11_kind 17 = .ok (.ifCond .ne 5, 3) := by decide +kernel
theorem dX11_kind_20 : decode cX11_kind 20 = .ok (.iconst (-1), 1) := by decide +kernel
theorem dX11_kind_21 : decode cX11_kind 21 = .ok (.ireturn, 1) := by decide +kernel
theorem dX11_kind_22 : decode cX11_kind 22 = .ok (.aload_n 0, 1) := by decide +kernel
theorem dX11_kind_23 : decode cX11_kind 23 = .ok (.getfield 75, 3) := by decide +kernel
theorem dX11_kind_26 : decode cX11_kind 26 = .ok (.iload 5, 2) := by decide +kernel
theorem dX11_kind_28 : decode cX11_kind 28 = .ok (.invokevirtual 218, 3) := by decide +kernel
theorem dX11_kind_31 : decode cX11_kind 31 = .ok (.ireturn, 1) := by decide +kernel
theorem dX11_likely_0 : decode cX11_likely 0 = .ok (.aload_n 0, 1) := by decide +kernel
theorem dX11_likely_1 : decode cX11_likely 1 = .ok (.iload_n 1, 1) := by decide +kernel
theorem dX11_likely_2 : decode cX11_likely 2 = .ok (.iload_n 2, 1) := by decide +kernel
theorem dX11_likely_3 : decode cX11_likely 3 = .ok (.iload_n 3, 1) := by decide +kernel
theorem dX11_likely_4 : decode cX11_likely 4 = .ok (.iload 4, 2) := by decide +kernel
theorem dX11_likely_6 : decode cX11_likely 6 = .ok (.invokevirtual 201, 3) := by decide +kernel
theorem dX11_likely_9 : decode cX11_likely 9 = .ok (.ifCond .ne 5, 3) := by decide +kernel
theorem dX11_likely_12 : decode cX11_likely 12 = .ok (.iconst (-1), 1) := by decide +kernel
theorem dX11_likely_13 : decode cX11_likely 13 = .ok (.ireturn, 1) := by decide +kernel
theorem dX11_likely_14 : decode cX11_likely 14 = .ok (.aload_n 0, 1) := by decide +kernel
theorem dX11_likely_15 : decode cX11_likely 15 = .ok (.getfield 75, 3) := by decide +kernel
theorem dX11_likely_18 : decode cX11_likely 18 = .ok (.invokevirtual 221, 3) := by decide +kernel
theorem dX11_likely_21 : decode cX11_likely 21 = .ok (.ireturn, 1) := by decide +kernel
theorem dX10_chanceNoticed_0 : decode cX10_chanceNoticed 0 = .ok (.aload_n 0, 1) := by decide +kernel
theorem dX10_chanceNoticed_1 : decode cX10_chanceNoticed 1 = .ok (.getfield 30, 3) := by decide +kernel
theorem dX10_chanceNoticed_4 : decode cX10_chanceNoticed 4 = .ok (.aload_n 0, 1) := by decide +kernel
theorem dX10_chanceNoticed_5 : decode cX10_chanceNoticed 5 = .ok (.getfield 59, 3) := by decide +kernel
theorem dX10_chanceNoticed_8 : decode cX10_chanceNoticed 8 = .ok (.getfield 79, 3) := by decide +kernel
theorem dX10_chanceNoticed_11 : decode cX10_chanceNoticed 11 = .ok (.i2l, 1) := by decide +kernel
theorem dX10_chanceNoticed_12 : decode cX10_chanceNoticed 12 = .ok (.lmul, 1) := by decide +kernel
theorem dX10_chanceNoticed_13 : decode cX10_chanceNoticed 13 = .ok (.aload_n 0, 1) := by decide +kernel
theorem dX10_chanceNoticed_14 : decode cX10_chanceNoticed 14 = .ok (.getfield 47, 3) := by decide +kernel
theorem dX10_chanceNoticed_17 : decode cX10_chanceNoticed 17 = .ok (.lmul, 1) := by decide +kernel
theorem dX10_chanceNoticed_18 : decode cX10_chanceNoticed 18 = .ok (.lstore_n 1, 1) := by decide +kernel
theorem dX10_chanceNoticed_19 : decode cX10_chanceNoticed 19 = .ok (.ldc2_w 133, 3) := by decide +kernel
theorem dX10_chanceNoticed_22 : decode cX10_chanceNoticed 22 = .ok (.aload_n 0, 1) := by decide +kernel
theorem dX10_chanceNoticed_23 : decode cX10_chanceNoticed 23 = .ok (.getfield 30, 3) := by decide +kernel
theorem dX10_chanceNoticed_26 : decode cX10_chanceNoticed 26 = .ok (.lsub, 1) := by decide +kernel
theorem dX10_chanceNoticed_27 : decode cX10_chanceNoticed 27 = .ok (.aload_n 0, 1) := by decide +kernel
theorem dX10_chanceNoticed_28 : decode cX10_chanceNoticed 28 = .ok (.getfield 41, 3) := by decide +kernel
theorem dX10_chanceNoticed_31 : decode cX10_chanceNoticed 31 = .ok (.lmul, 1) := by decide +kernel
theorem dX10_chanceNoticed_32 : decode cX10_chanceNoticed 32 = .ok (.aload_n 0, 1) := by decide +kernel
theorem dX10_chanceNoticed_33 : decode cX10_chanceNoticed 33 = .ok (.getfield 44, 3) := by decide +kernel
theorem dX10_chanceNoticed_36 : decode cX10_chanceNoticed 36 = .ok (.lmul, 1) := by decide +kernel
theorem dX10_chanceNoticed_37 : decode cX10_chanceNoticed 37 = .ok (.lstore_n 3, 1) := by decide +kernel
theorem dX10_chanceNoticed_38 : decode cX10_chanceNoticed 38 = .ok (.lload_n 1, 1) := by decide +kernel
theorem dX10_chanceNoticed_39 : decode cX10_chanceNoticed 39 = .ok (.lload_n 3, 1) := by decide +kernel
theorem dX10_chanceNoticed_40 : decode cX10_chanceNoticed 40 = .ok (.ladd, 1) := by decide +kernel
theorem dX10_chanceNoticed_41 : decode cX10_chanceNoticed 41 = .ok (.lconst 0, 1) := by decide +kernel
theorem dX10_chanceNoticed_42 : decode cX10_chanceNoticed 42 = .ok (.lcmp, 1) := by decide +kernel
theorem dX10_chanceNoticed_43 : decode cX10_chanceNoticed 43 = .ok (.ifCond .ne 9, 3) := by decide +kernel
theorem dX10_chanceNoticed_46 : decode cX10_chanceNoticed 46 = .ok (.sipush 1000, 3) := by decide +kernel
theorem dX10_chanceNoticed_49 : decode cX10_chanceNoticed 49 = .ok (.goto 10, 3) := by decide +kernel
theorem dX10_chanceNoticed_52 : decode cX10_chanceNoticed 52 = .ok (.lload_n 3, 1) := by decide +kernel
theorem dX10_chanceNoticed_53 : decode cX10_chanceNoticed 53 = .ok (.lload_n 1, 1) := by decide +kernel
theorem dX10_chanceNoticed_54 : decode cX10_chanceNoticed 54 = .ok (.lload_n 3, 1) := by decide +kernel
theorem dX10_chanceNoticed_55 : decode cX10_chanceNoticed 55 = .ok (.ladd, 1) := by decide +kernel
theorem dX10_chanceNoticed_56 : decode cX10_chanceNoticed 56 = .ok (.invokestatic 141, 3) := by decide +kernel
theorem dX10_chanceNoticed_59 : decode cX10_chanceNoticed 59 = .ok (.ireturn, 1) := by decide +kernel
theorem dX11_noticed_0 : decode cX11_noticed 0 = .ok (.aload_n 0, 1) := by decide +kernel
theorem dX11_noticed_1 : decode cX11_noticed 1 = .ok (.iload_n 1, 1) := by decide +kernel
theorem dX11_noticed_2 : decode cX11_noticed 2 = .ok (.iload_n 2, 1) := by decide +kernel
theorem dX11_noticed_3 : decode cX11_noticed 3 = .ok (.iload_n 3, 1) := by decide +kernel
theorem dX11_noticed_4 : decode cX11_noticed 4 = .ok (.invokevirtual 225, 3) := by decide +kernel
theorem dX11_noticed_7 : decode cX11_noticed 7 = .ok (.ifCond .ne 5, 3) := by decide +kernel
theorem dX11_noticed_10 : decode cX11_noticed 10 = .ok (.iconst (-1), 1) := by decide +kernel
theorem dX11_noticed_11 : decode cX11_noticed 11 = .ok (.ireturn, 1) := by decide +kernel
theorem dX11_noticed_12 : decode cX11_noticed 12 = .ok (.aload_n 0, 1) := by decide +kernel
theorem dX11_noticed_13 : decode cX11_noticed 13 = .ok (.iload_n 1, 1) := by decide +kernel
theorem dX11_noticed_14 : decode cX11_noticed 14 = .ok (.iload_n 2, 1) := by decide +kernel
theorem dX11_noticed_15 : decode cX11_noticed 15 = .ok (.iload_n 3, 1) := by decide +kernel
theorem dX11_noticed_16 : decode cX11_noticed 16 = .ok (.invokevirtual 229, 3) := by decide +kernel
theorem dX11_noticed_19 : decode cX11_noticed 19 = .ok (.aload_n 0, 1) := by decide +kernel
theorem dX11_noticed_20 : decode cX11_noticed 20 = .ok (.getfield 75, 3) := by decide +kernel
theorem dX11_noticed_23 : decode cX11_noticed 23 = .ok (.invokevirtual 233, 3) := by decide +kernel
theorem dX11_noticed_26 : decode cX11_noticed 26 = .ok (.ireturn, 1) := by decide +kernel
theorem dX7_addAnswer_0 : decode cX7_addAnswer 0 = .ok (.aload_n 0, 1) := by decide +kernel
theorem dX7_addAnswer_1 : decode cX7_addAnswer 1 = .ok (.getfield 32, 3) := by decide +kernel
theorem dX7_addAnswer_4 : decode cX7_addAnswer 4 = .ok (.bipush 60, 2) := by decide +kernel
theorem dX7_addAnswer_6 : decode cX7_addAnswer 6 = .ok (.if_icmp .ge 65, 3) := by decide +kernel
theorem dX7_addAnswer_9 : decode cX7_addAnswer 9 = .ok (.aload_n 0, 1) := by decide +kernel
theorem dX7_addAnswer_10 : decode cX7_addAnswer 10 = .ok (.getfield 35, 3) := by decide +kernel
theorem dX7_addAnswer_13 : decode cX7_addAnswer 13 = .ok (.aload_n 0, 1) := by decide +kernel
theorem dX7_addAnswer_14 : decode cX7_addAnswer 14 = .ok (.getfield 32, 3) := by decide +kernel
theorem dX7_addAnswer_17 : decode cX7_addAnswer 17 = .ok (.iload_n 1, 1) := by decide +kernel
theorem dX7_addAnswer_18 : decode cX7_addAnswer 18 = .ok (.iastore, 1) := by decide +kernel
theorem dX7_addAnswer_19 : decode cX7_addAnswer 19 = .ok (.aload_n 0, 1) := by decide +kernel
theorem dX7_addAnswer_20 : decode cX7_addAnswer 20 = .ok (.getfield 38, 3) := by decide +kernel
theorem dX7_addAnswer_23 : decode cX7_addAnswer 23 = .ok (.aload_n 0, 1) := by decide +kernel
theorem dX7_addAnswer_24 : decode cX7_addAnswer 24 = .ok (.getfield 32, 3) := by decide +kernel
theorem dX7_addAnswer_27 : decode cX7_addAnswer 27 = .ok (.iload_n 2, 1) := by decide +kernel
theorem dX7_addAnswer_28 : decode cX7_addAnswer 28 = .ok (.iastore, 1) := by decide +kernel
theorem dX7_addAnswer_29 : decode cX7_addAnswer 29 = .ok (.aload_n 0, 1) := by decide +kernel
theorem dX7_addAnswer_30 : decode cX7_addAnswer 30 = .ok (.getfield 41, 3) := by decide +kernel
theorem dX7_addAnswer_33 : decode cX7_addAnswer 33 = .ok (.aload_n 0, 1) := by decide +kernel
theorem dX7_addAnswer_34 : decode cX7_addAnswer 34 = .ok (.getfield 32, 3) := by decide +kernel
theorem dX7_addAnswer_37 : decode cX7_addAnswer 37 = .ok (.iload_n 3, 1) := by decide +kernel
theorem dX7_addAnswer_38 : decode cX7_addAnswer 38 = .ok (.iastore, 1) := by decide +kernel
theorem dX7_addAnswer_39 : decode cX7_addAnswer 39 = .ok (.aload_n 0, 1) := by decide +kernel
theorem dX7_addAnswer_40 : decode cX7_addAnswer 40 = .ok (.getfield 44, 3) := by decide +kernel
theorem dX7_addAnswer_43 : decode cX7_addAnswer 43 = .ok (.aload_n 0, 1) := by decide +kernel
theorem dX7_addAnswer_44 : decode cX7_addAnswer 44 = .ok (.getfield 32, 3) := by decide +kernel
theorem dX7_addAnswer_47 : decode cX7_addAnswer 47 = .ok (.iload 4, 2) := by decide +kernel
theorem dX7_addAnswer_49 : decode cX7_addAnswer 49 = .ok (.iastore, 1) := by decide +kernel
theorem dX7_addAnswer_50 : decode cX7_addAnswer 50 = .ok (.aload_n 0, 1) := by decide +kernel
theorem dX7_addAnswer_51 : decode cX7_addAnswer 51 = .ok (.getfield 47, 3) := by decide +kernel
theorem dX7_addAnswer_54 : decode cX7_addAnswer 54 = .ok (.aload_n 0, 1) := by decide +kernel
theorem dX7_addAnswer_55 : decode cX7_addAnswer 55 = .ok (.getfield 32, 3) := by decide +kernel
theorem dX7_addAnswer_58 : decode cX7_addAnswer 58 = .ok (.iload 5, 2) := by decide +kernel
theorem dX7_addAnswer_60 : decode cX7_addAnswer 60 = .ok (.bastore, 1) := by decide +kernel
theorem dX7_addAnswer_61 : decode cX7_addAnswer 61 = .ok (.aload_n 0, 1) := by decide +kernel
theorem dX7_addAnswer_62 : decode cX7_addAnswer 62 = .ok (.dup, 1) := by decide +kernel
theorem dX7_addAnswer_63 : decode cX7_addAnswer 63 = .ok (.getfield 32, 3) := by decide +kernel
theorem dX7_addAnswer_66 : decode cX7_addAnswer 66 = .ok (.iconst 1, 1) := by decide +kernel
theorem dX7_addAnswer_67 : decode cX7_addAnswer 67 = .ok (.iadd, 1) := by decide +kernel
theorem dX7_addAnswer_68 : decode cX7_addAnswer 68 = .ok (.putfield 32, 3) := by decide +kernel
theorem dX7_addAnswer_71 : decode cX7_addAnswer 71 = .ok (.return_, 1) := by decide +kernel
theorem dX11_answer_0 : decode cX11_answer 0 = .ok (.aload_n 0, 1) := by decide +kernel
theorem dX11_answer_1 : decode cX11_answer 1 = .ok (.iload_n 1, 1) := by decide +kernel
theorem dX11_answer_2 : decode cX11_answer 2 = .ok (.iload_n 2, 1) := by decide +kernel
theorem dX11_answer_3 : decode cX11_answer 3 = .ok (.iload_n 3, 1) := by decide +kernel
theorem dX11_answer_4 : decode cX11_answer 4 = .ok (.invokevirtual 225, 3) := by decide +kernel
theorem dX11_answer_7 : decode cX11_answer 7 = .ok (.ifCond .eq 33, 3) := by decide +kernel
theorem dX11_answer_10 : decode cX11_answer 10 = .ok (.iload 4, 2) := by decide +kernel
theorem dX11_answer_12 : decode cX11_answer 12 = .ok (.ifCond .lt 28, 3) := by decide +kernel
theorem dX11_answer_15 : decode cX11_answer 15 = .ok (.iload 4, 2) := by decide +kernel
theorem dX11_answer_17 : decode cX11_answer 17 = .ok (.bipush 100, 2) := by decide +kernel
theorem dX11_answer_19 : decode cX11_answer 19 = .ok (.idiv, 1) := by decide +kernel
theorem dX11_answer_20 : decode cX11_answer 20 = .ok (.iconst 1, 1) := by decide +kernel
theorem dX11_answer_21 : decode cX11_answer 21 = .ok (.if_icmp .gt 19, 3) := by decide +kernel
theorem dX11_answer_24 : decode cX11_answer 24 = .ok (.aload_n 0, 1) := by decide +kernel
theorem dX11_answer_25 : decode cX11_answer 25 = .ok (.iload 4, 2) := by decide +kernel
theorem dX11_answer_27 : decode cX11_answer 27 = .ok (.bipush 100, 2) := by decide +kernel
theorem dX11_answer_29 : decode cX11_answer 29 = .ok (.irem, 1) := by decide +kernel
theorem dX11_answer_30 : decode cX11_answer 30 = .ok (.invokevirtual 142, 3) := by decide +kernel
theorem dX11_answer_33 : decode cX11_answer 33 = .ok (.ifCond .eq 7, 3) := by decide +kernel
theorem dX11_answer_36 : decode cX11_answer 36 = .ok (.iconst 1, 1) := by decide +kernel
theorem dX11_answer_37 : decode cX11_answer 37 = .ok (.goto 4, 3) := by decide +kernel
theorem dX11_answer_40 : decode cX11_answer 40 = .ok (.iconst 0, 1) := by decide +kernel
theorem dX11_answer_41 : decode cX11_answer 41 = .ok (.istore 5, 2) := by decide +kernel
theorem dX11_answer_43 : decode cX11_answer 43 = .ok (.iload 5, 2) := by decide +kernel
theorem dX11_answer_45 : decode cX11_answer 45 = .ok (.ifCond .eq 15, 3) := by decide +kernel
theorem dX11_answer_48 : decode cX11_answer 48 = .ok (.aload_n 0, 1) := by decide +kernel
theorem dX11_answer_49 : decode cX11_answer 49 = .ok (.getfield 24, 3) := by decide +kernel
theorem dX11_answer_52 : decode cX11_answer 52 = .ok (.getfield 162, 3) := by decide +kernel
theorem dX11_answer_55 : decode cX11_answer 55 = .ok (.bipush 60, 2) := by decide +kernel
theorem dX11_answer_57 : decode cX11_answer 57 = .ok (.if_icmp .lt 5, 3) := by decide +kernel
theorem dX11_answer_60 : decode cX11_answer 60 = .ok (.iconst (-1), 1) := by decide +kernel
theorem dX11_answer_61 : decode cX11_answer 61 = .ok (.ireturn, 1) := by decide +kernel
theorem dX11_answer_62 : decode cX11_answer 62 = .ok (.aload_n 0, 1) := by decide +kernel
theorem dX11_answer_63 : decode cX11_answer 63 = .ok (.getfield 24, 3) := by decide +kernel
theorem dX11_answer_66 : decode cX11_answer 66 = .ok (.iload_n 1, 1) := by decide +kernel
theorem dX11_answer_67 : decode cX11_answer 67 = .ok (.iload_n 2, 1) := by decide +kernel
theorem dX11_answer_68 : decode cX11_answer 68 = .ok (.iload_n 3, 1) := by decide +kernel
theorem dX11_answer_69 : decode cX11_answer 69 = .ok (.iload 4, 2) := by decide +kernel
theorem dX11_answer_71 : decode cX11_answer 71 = .ok (.bipush 100, 2) := by decide +kernel
theorem dX11_answer_73 : decode cX11_answer 73 = .ok (.irem, 1) := by decide +kernel
theorem dX11_answer_74 : decode cX11_answer 74 = .ok (.iload 4, 2) := by decide +kernel
theorem dX11_answer_76 : decode cX11_answer 76 = .ok (.bipush 100, 2) := by decide +kernel
theorem dX11_answer_78 : decode cX11_answer 78 = .ok (.if_icmp .lt 7, 3) := by decide +kernel
theorem dX11_answer_81 : decode cX11_answer 81 = .ok (.iconst 1, 1) := by decide +kernel
theorem dX11_answer_82 : decode cX11_answer 82 = .ok (.goto 4, 3) := by decide +kernel
theorem dX11_answer_85 : decode cX11_answer 85 = .ok (.iconst 0, 1) := by decide +kernel
theorem dX11_answer_86 : decode cX11_answer 86 = .ok (.invokevirtual 236, 3) := by decide +kernel
theorem dX11_answer_89 : decode cX11_answer 89 = .ok (.aload_n 0, 1) := by decide +kernel
theorem dX11_answer_90 : decode cX11_answer 90 = .ok (.getfield 24, 3) := by decide +kernel
theorem dX11_answer_93 : decode cX11_answer 93 = .ok (.getfield 162, 3) := by decide +kernel
theorem dX11_answer_96 : decode cX11_answer 96 = .ok (.ireturn, 1) := by decide +kernel
theorem dX11_undo_0 : decode cX11_undo 0 = .ok (.aload_n 0, 1) := by decide +kernel
theorem dX11_undo_1 : decode cX11_undo 1 = .ok (.getfield 24, 3) := by decide +kernel
theorem dX11_undo_4 : decode cX11_undo 4 = .ok (.getfield 162, 3) := by decide +kernel
theorem dX11_undo_7 : decode cX11_undo 7 = .ok (.ifCond .gt 5, 3) := by decide +kernel
theorem dX11_undo_10 : decode cX11_undo 10 = .ok (.iconst (-1), 1) := by decide +kernel
theorem dX11_undo_11 : decode cX11_undo 11 = .ok (.ireturn, 1) := by decide +kernel
theorem dX11_undo_12 : decode cX11_undo 12 = .ok (.aload_n 0, 1) := by decide +kernel
theorem dX11_undo_13 : decode cX11_undo 13 = .ok (.getfield 24, 3) := by decide +kernel
theorem dX11_undo_16 : decode cX11_undo 16 = .ok (.dup, 1) := by decide +kernel
theorem dX11_undo_17 : decode cX11_undo 17 = .ok (.getfield 162, 3) := by decide +kernel
theorem dX11_undo_20 : decode cX11_undo 20 = .ok (.iconst 1, 1) := by decide +kernel
theorem dX11_undo_21 : decode cX11_undo 21 = .ok (.isub, 1) := by decide +kernel
theorem dX11_undo_22 : decode cX11_undo 22 = .ok (.putfield 162, 3) := by decide +kernel
theorem dX11_undo_25 : decode cX11_undo 25 = .ok (.aload_n 0, 1) := by decide +kernel
theorem dX11_undo_26 : decode cX11_undo 26 = .ok (.getfield 24, 3) := by decide +kernel
theorem dX11_undo_29 : decode cX11_undo 29 = .ok (.getfield 162, 3) := by decide +kernel
theorem dX11_undo_32 : decode cX11_undo 32 = .ok (.ireturn, 1) := by decide +kernel
theorem dX7_isAnswer_0 : decode cX7_isAnswer 0 = .ok (.iload_n 1, 1) := by decide +kernel
theorem dX7_isAnswer_1 : decode cX7_isAnswer 1 = .ok (.ifCond .lt 15, 3) := by decide +kernel
theorem dX7_isAnswer_4 : decode cX7_isAnswer 4 = .ok (.iload_n 1, 1) := by decide +kernel
theorem dX7_isAnswer_5 : decode cX7_isAnswer 5 = .ok (.aload_n 0, 1) := by decide +kernel
theorem dX7_isAnswer_6 : decode cX7_isAnswer 6 = .ok (.getfield 32, 3) := by decide +kernel
theorem dX7_isAnswer_9 : decode cX7_isAnswer 9 = .ok (.if_icmp .ge 7, 3) := by decide +kernel
theorem dX7_isAnswer_12 : decode cX7_isAnswer 12 = .ok (.iconst 1, 1) := by decide +kernel
theorem dX7_isAnswer_13 : decode cX7_isAnswer 13 = .ok (.goto 4, 3) := by decide +kernel
theorem dX7_isAnswer_16 : decode cX7_isAnswer 16 = .ok (.iconst 0, 1) := by decide +kernel
theorem dX7_isAnswer_17 : decode cX7_isAnswer 17 = .ok (.ireturn, 1) := by decide +kernel
theorem dX7_kindOfAnswer_0 : decode cX7_kindOfAnswer 0 = .ok (.aload_n 0, 1) := by decide +kernel
theorem dX7_kindOfAnswer_1 : decode cX7_kindOfAnswer 1 = .ok (.getfield 35, 3) := by decide +kernel
theorem dX7_kindOfAnswer_4 : decode cX7_kindOfAnswer 4 = .ok (.iload_n 1, 1) := by decide +kernel
theorem dX7_kindOfAnswer_5 : decode cX7_kindOfAnswer 5 = .ok (.iaload, 1) := by decide +kernel
theorem dX7_kindOfAnswer_6 : decode cX7_kindOfAnswer 6 = .ok (.bipush 10, 2) := by decide +kernel
theorem dX7_kindOfAnswer_8 : decode cX7_kindOfAnswer 8 = .ok (.idiv, 1) := by decide +kernel
theorem dX7_kindOfAnswer_9 : decode cX7_kindOfAnswer 9 = .ok (.bipush 10, 2) := by decide +kernel
theorem dX7_kindOfAnswer_11 : decode cX7_kindOfAnswer 11 = .ok (.irem, 1) := by decide +kernel
theorem dX7_kindOfAnswer_12 : decode cX7_kindOfAnswer 12 = .ok (.aload_n 0, 1) := by decide +kernel
theorem dX7_kindOfAnswer_13 : decode cX7_kindOfAnswer 13 = .ok (.getfield 35, 3) := by decide +kernel
theorem dX7_kindOfAnswer_16 : decode cX7_kindOfAnswer 16 = .ok (.iload_n 1, 1) := by decide +kernel
theorem dX7_kindOfAnswer_17 : decode cX7_kindOfAnswer 17 = .ok (.iaload, 1) := by decide +kernel
theorem dX7_kindOfAnswer_18 : decode cX7_kindOfAnswer 18 = .ok (.bipush 10, 2) := by decide +kernel
theorem dX7_kindOfAnswer_20 : decode cX7_kindOfAnswer 20 = .ok (.irem, 1) := by decide +kernel
theorem dX7_kindOfAnswer_21 : decode cX7_kindOfAnswer 21 = .ok (.aload_n 0, 1) := by decide +kernel
theorem dX7_kindOfAnswer_22 : decode cX7_kindOfAnswer 22 = .ok (.getfield 44, 3) := by decide +kernel
theorem dX7_kindOfAnswer_25 : decode cX7_kindOfAnswer 25 = .ok (.iload_n 1, 1) := by decide +kernel
theorem dX7_kindOfAnswer_26 : decode cX7_kindOfAnswer 26 = .ok (.iaload, 1) := by decide +kernel
theorem dX7_kindOfAnswer_27 : decode cX7_kindOfAnswer 27 = .ok (.invokestatic 59, 3) := by decide +kernel
theorem dX7_kindOfAnswer_30 : decode cX7_kindOfAnswer 30 = .ok (.ireturn, 1) := by decide +kernel
theorem dX11_of_0 : decode cX11_of 0 = .ok (.aload_n 0, 1) := by decide +kernel
theorem dX11_of_1 : decode cX11_of 1 = .ok (.getfield 24, 3) := by decide +kernel
theorem dX11_of_4 : decode cX11_of 4 = .ok (.iload_n 1, 1) := by decide +kernel
theorem dX11_of_5 : decode cX11_of 5 = .ok (.invokevirtual 240, 3) := by decide +kernel
theorem dX11_of_8 : decode cX11_of 8 = .ok (.ifCond .ne 6, 3) := by decide +kernel
theorem dX11_of_11 : decode cX11_of 11 = .ok (.ldc 125, 2) := by decide +kernel
theorem dX11_of_13 : decode cX11_of 13 = .ok (.ireturn, 1) := by decide +kernel
theorem dX11_of_14 : decode cX11_of 14 = .ok (.iload_n 2, 1) := by decide +kernel
theorem dX11_of_15 : decode cX11_of 15 = .ok (.tableswitch 104 0 5 #[37, 47, 57, 67, 77, 95], 37) := by decide +kernel
theorem dX11_of_52 : decode cX11_of 52 = .ok (.aload_n 0, 1) := by decide +kernel
theorem dX11_of_53 : decode cX11_of 53 = .ok (.getfield 24, 3) := by decide +kernel
theorem dX11_of_56 : decode cX11_of 56 = .ok (.getfield 243, 3) := by decide +kernel
theorem dX11_of_59 : decode cX11_of 59 = .ok (.iload_n 1, 1) := by decide +kernel
theorem dX11_of_60 : decode cX11_of 60 = .ok (.iaload, 1) := by decide +kernel
theorem dX11_of_61 : decode cX11_of 61 = .ok (.ireturn, 1) := by decide +kernel
theorem dX11_of_62 : decode cX11_of 62 = .ok (.aload_n 0, 1) := by decide +kernel
theorem dX11_of_63 : decode cX11_of 63 = .ok (.getfield 24, 3) := by decide +kernel
theorem dX11_of_66 : decode cX11_of 66 = .ok (.getfield 246, 3) := by decide +kernel
theorem dX11_of_69 : decode cX11_of 69 = .ok (.iload_n 1, 1) := by decide +kernel
theorem dX11_of_70 : decode cX11_of 70 = .ok (.iaload, 1) := by decide +kernel
theorem dX11_of_71 : decode cX11_of 71 = .ok (.ireturn, 1) := by decide +kernel
theorem dX11_of_72 : decode cX11_of 72 = .ok (.aload_n 0, 1) := by decide +kernel
theorem dX11_of_73 : decode cX11_of 73 = .ok (.getfield 24, 3) := by decide +kernel
theorem dX11_of_76 : decode cX11_of 76 = .ok (.getfield 249, 3) := by decide +kernel
theorem dX11_of_79 : decode cX11_of 79 = .ok (.iload_n 1, 1) := by decide +kernel
theorem dX11_of_80 : decode cX11_of 80 = .ok (.iaload, 1) := by decide +kernel
theorem dX11_of_81 : decode cX11_of 81 = .ok (.ireturn, 1) := by decide +kernel
theorem dX11_of_82 : decode cX11_of 82 = .ok (.aload_n 0, 1) := by decide +kernel
theorem dX11_of_83 : decode cX11_of 83 = .ok (.getfield 24, 3) := by decide +kernel
theorem dX11_of_86 : decode cX11_of 86 = .ok (.getfield 252, 3) := by decide +kernel
theorem dX11_of_89 : decode cX11_of 89 = .ok (.iload_n 1, 1) := by decide +kernel
theorem dX11_of_90 : decode cX11_of 90 = .ok (.iaload, 1) := by decide +kernel
theorem dX11_of_91 : decode cX11_of 91 = .ok (.ireturn, 1) := by decide +kernel
theorem dX11_of_92 : decode cX11_of 92 = .ok (.aload_n 0, 1) := by decide +kernel
theorem dX11_of_93 : decode cX11_of 93 = .ok (.getfield 24, 3) := by decide +kernel
theorem dX11_of_96 : decode cX11_of 96 = .ok (.getfield 255, 3) := by decide +kernel
theorem dX11_of_99 : decode cX11_of 99 = .ok (.iload_n 1, 1) := by decide +kernel
theorem dX11_of_100 : decode cX11_of 100 = .ok (.baload, 1) := by decide +kernel
theorem dX11_of_101 : decode cX11_of 101 = .ok (.ifCond .eq 7, 3) := by decide +kernel
theorem dX11_of_104 : decode cX11_of 104 = .ok (.iconst 1, 1) := by decide +kernel
theorem dX11_of_105 : decode cX11_of 105 = .ok (.goto 4, 3) := by decide +kernel
theorem dX11_of_108 : decode cX11_of 108 = .ok (.iconst 0, 1) := by decide +kernel
theorem dX11_of_109 : decode cX11_of 109 = .ok (.ireturn, 1) := by decide +kernel
theorem dX11_of_110 : decode cX11_of 110 = .ok (.aload_n 0, 1) := by decide +kernel
theorem dX11_of_111 : decode cX11_of 111 = .ok (.getfield 24, 3) := by decide +kernel
theorem dX11_of_114 : decode cX11_of 114 = .ok (.iload_n 1, 1) := by decide +kernel
theorem dX11_of_115 : decode cX11_of 115 = .ok (.invokevirtual 259, 3) := by decide +kernel
theorem dX11_of_118 : decode cX11_of 118 = .ok (.ireturn, 1) := by decide +kernel
theorem dX11_of_119 : decode cX11_of 119 = .ok (.ldc 125, 2) := by decide +kernel
theorem dX11_of_121 : decode cX11_of 121 = .ok (.ireturn, 1) := by decide +kernel
theorem dX11_isPersonOrAll_0 : decode cX11_isPersonOrAll 0 = .ok (.iload_n 1, 1) := by decide +kernel
theorem dX11_isPersonOrAll_1 : decode cX11_isPersonOrAll 1 = .ok (.iconst (-1), 1) := by decide +kernel
theorem dX11_isPersonOrAll_2 : decode cX11_isPersonOrAll 2 = .ok (.if_icmp .eq 11, 3) := by decide +kernel
theorem dX11_isPersonOrAll_5 : decode cX11_isPersonOrAll 5 = .ok (.aload_n 0, 1) := by decide +kernel
theorem dX11_isPersonOrAll_6 : decode cX11_isPersonOrAll 6 = .ok (.iload_n 1, 1) := by decide +kernel
theorem dX11_isPersonOrAll_7 : decode cX11_isPersonOrAll 7 = .ok (.invokevirtual 183, 3) := by decide +kernel
theorem dX11_isPersonOrAll_10 : decode cX11_isPersonOrAll 10 = .ok (.ifCond .eq 7, 3) := by decide +kernel
theorem dX11_isPersonOrAll_13 : decode cX11_isPersonOrAll 13 = .ok (.iconst 1, 1) := by decide +kernel
theorem dX11_isPersonOrAll_14 : decode cX11_isPersonOrAll 14 = .ok (.goto 4, 3) := by decide +kernel
theorem dX11_isPersonOrAll_17 : decode cX11_isPersonOrAll 17 = .ok (.iconst 0, 1) := by decide +kernel
theorem dX11_isPersonOrAll_18 : decode cX11_isPersonOrAll 18 = .ok (.ireturn, 1) := by decide +kernel
theorem dX0_add_0 : decode cX0_add 0 = .ok (.aload_n 0, 1) := by decide +kernel
theorem dX0_add_1 : decode cX0_add 1 = .ok (.getfield 9, 3) := by decide +kernel
theorem dX0_add_4 : decode cX0_add 4 = .ok (.bipush 60, 2) := by decide +kernel
theorem dX0_add_6 : decode cX0_add 6 = .ok (.if_icmp .ge 33, 3) := by decide +kernel
theorem dX0_add_9 : decode cX0_add 9 = .ok (.aload_n 0, 1) := by decide +kernel
theorem dX0_add_10 : decode cX0_add 10 = .ok (.getfield 15, 3) := by decide +kernel
theorem dX0_add_13 : decode cX0_add 13 = .ok (.aload_n 0, 1) := by decide +kernel
theorem dX0_add_14 : decode cX0_add 14 = .ok (.getfield 9, 3) := by decide +kernel
theorem dX0_add_17 : decode cX0_add 17 = .ok (.lload_n 1, 1) := by decide +kernel
theorem dX0_add_18 : decode cX0_add 18 = .ok (.lastore, 1) := by decide +kernel
theorem dX0_add_19 : decode cX0_add 19 = .ok (.aload_n 0, 1) := by decide +kernel
theorem dX0_add_20 : decode cX0_add 20 = .ok (.getfield 19, 3) := by decide +kernel
theorem dX0_add_23 : decode cX0_add 23 = .ok (.aload_n 0, 1) := by decide +kernel
theorem dX0_add_24 : decode cX0_add 24 = .ok (.getfield 9, 3) := by decide +kernel
theorem dX0_add_27 : decode cX0_add 27 = .ok (.lload_n 3, 1) := by decide +kernel
theorem dX0_add_28 : decode cX0_add 28 = .ok (.lastore, 1) := by decide +kernel
theorem dX0_add_29 : decode cX0_add 29 = .ok (.aload_n 0, 1) := by decide +kernel
theorem dX0_add_30 : decode cX0_add 30 = .ok (.dup, 1) := by decide +kernel
theorem dX0_add_31 : decode cX0_add 31 = .ok (.getfield 9, 3) := by decide +kernel
theorem dX0_add_34 : decode cX0_add 34 = .ok (.iconst 1, 1) := by decide +kernel
theorem dX0_add_35 : decode cX0_add 35 = .ok (.iadd, 1) := by decide +kernel
theorem dX0_add_36 : decode cX0_add 36 = .ok (.putfield 9, 3) := by decide +kernel
theorem dX0_add_39 : decode cX0_add 39 = .ok (.return_, 1) := by decide +kernel
theorem dX11_gather_0 : decode cX11_gather 0 = .ok (.aload_n 1, 1) := by decide +kernel
theorem dX11_gather_1 : decode cX11_gather 1 = .ok (.iconst 0, 1) := by decide +kernel
theorem dX11_gather_2 : decode cX11_gather 2 = .ok (.putfield 371, 3) := by decide +kernel
theorem dX11_gather_5 : decode cX11_gather 5 = .ok (.iconst 0, 1) := by decide +kernel
theorem dX11_gather_6 : decode cX11_gather 6 = .ok (.istore 4, 2) := by decide +kernel
theorem dX11_gather_8 : decode cX11_gather 8 = .ok (.iload 4, 2) := by decide +kernel
theorem dX11_gather_10 : decode cX11_gather 10 = .ok (.aload_n 0, 1) := by decide +kernel
theorem dX11_gather_11 : decode cX11_gather 11 = .ok (.getfield 24, 3) := by decide +kernel
theorem dX11_gather_14 : decode cX11_gather 14 = .ok (.getfield 162, 3) := by decide +kernel
theorem dX11_gather_17 : decode cX11_gather 17 = .ok (.if_icmp .ge 102, 3) := by decide +kernel
theorem dX11_gather_20 : decode cX11_gather 20 = .ok (.iload_n 3, 1) := by decide +kernel
theorem dX11_gather_21 : decode cX11_gather 21 = .ok (.iconst (-1), 1) := by decide +kernel
theorem dX11_gather_22 : decode cX11_gather 22 = .ok (.if_icmp .eq 20, 3) := by decide +kernel
theorem dX11_gather_25 : decode cX11_gather 25 = .ok (.aload_n 0, 1) := by decide +kernel
theorem dX11_gather_26 : decode cX11_gather 26 = .ok (.getfield 24, 3) := by decide +kernel
theorem dX11_gather_29 : decode cX11_gather 29 = .ok (.getfield 243, 3) := by decide +kernel
theorem dX11_gather_32 : decode cX11_gather 32 = .ok (.iload 4, 2) := by decide +kernel
theorem dX11_gather_34 : decode cX11_gather 34 = .ok (.iaload, 1) := by decide +kernel
theorem dX11_gather_35 : decode cX11_gather 35 = .ok (.bipush 100, 2) := by decide +kernel
theorem dX11_gather_37 : decode cX11_gather 37 = .ok (.idiv, 1) := by decide +kernel
theorem dX11_gather_38 : decode cX11_gather 38 = .ok (.iload_n 3, 1) := by decide +kernel
theorem dX11_gather_39 : decode cX11_gather 39 = .ok (.if_icmp .ne 74, 3) := by decide +kernel
theorem dX11_gather_42 : decode cX11_gather 42 = .ok (.aload_n 0, 1) := by decide +kernel
theorem dX11_gather_43 : decode cX11_gather 43 = .ok (.aload_n 0, 1) := by decide +kernel
theorem dX11_gather_44 : decode cX11_gather 44 = .ok (.getfield 24, 3) := by decide +kernel
theorem dX11_gather_47 : decode cX11_gather 47 = .ok (.getfield 243, 3) := by decide +kernel
theorem dX11_gather_50 : decode cX11_gather 50 = .ok (.iload 4, 2) := by decide +kernel
theorem dX11_gather_52 : decode cX11_gather 52 = .ok (.iaload, 1) := by decide +kernel
theorem dX11_gather_53 : decode cX11_gather 53 = .ok (.aload_n 0, 1) := by decide +kernel
theorem dX11_gather_54 : decode cX11_gather 54 = .ok (.getfield 24, 3) := by decide +kernel
theorem dX11_gather_57 : decode cX11_gather 57 = .ok (.getfield 246, 3) := by decide +kernel
theorem dX11_gather_60 : decode cX11_gather 60 = .ok (.iload 4, 2) := by decide +kernel
theorem dX11_gather_62 : decode cX11_gather 62 = .ok (.iaload, 1) := by decide +kernel
theorem dX11_gather_63 : decode cX11_gather 63 = .ok (.aload_n 0, 1) := by decide +kernel
theorem dX11_gather_64 : decode cX11_gather 64 = .ok (.getfield 24, 3) := by decide +kernel
theorem dX11_gather_67 : decode cX11_gather 67 = .ok (.getfield 249, 3) := by decide +kernel
theorem dX11_gather_70 : decode cX11_gather 70 = .ok (.iload 4, 2) := by decide +kernel
theorem dX11_gather_72 : decode cX11_gather 72 = .ok (.iaload, 1) := by decide +kernel
theorem dX11_gather_73 : decode cX11_gather 73 = .ok (.invokevirtual 229, 3) := by decide +kernel
theorem dX11_gather_76 : decode cX11_gather 76 = .ok (.aload_n 0, 1) := by decide +kernel
theorem dX11_gather_77 : decode cX11_gather 77 = .ok (.getfield 75, 3) := by decide +kernel
theorem dX11_gather_80 : decode cX11_gather 80 = .ok (.iload_n 2, 1) := by decide +kernel
theorem dX11_gather_81 : decode cX11_gather 81 = .ok (.invokevirtual 294, 3) := by decide +kernel
theorem dX11_gather_84 : decode cX11_gather 84 = .ok (.aload_n 1, 1) := by decide +kernel
theorem dX11_gather_85 : decode cX11_gather 85 = .ok (.aload_n 0, 1) := by decide +kernel
theorem dX11_gather_86 : decode cX11_gather 86 = .ok (.getfield 75, 3) := by decide +kernel
theorem dX11_gather_89 : decode cX11_gather 89 = .ok (.getfield 208, 3) := by decide +kernel
theorem dX11_gather_92 : decode cX11_gather 92 = .ok (.aload_n 0, 1) := by decide +kernel
theorem dX11_gather_93 : decode cX11_gather 93 = .ok (.getfield 24, 3) := by decide +kernel
theorem dX11_gather_96 : decode cX11_gather 96 = .ok (.getfield 252, 3) := by decide +kernel
theorem dX11_gather_99 : decode cX11_gather 99 = .ok (.iload 4, 2) := by decide +kernel
theorem dX11_gather_101 : decode cX11_gather 101 = .ok (.iaload, 1) := by decide +kernel
theorem dX11_gather_102 : decode cX11_gather 102 = .ok (.laload, 1) := by decide +kernel
theorem dX11_gather_103 : decode cX11_gather 103 = .ok (.aload_n 0, 1) := by decide +kernel
theorem dX11_gather_104 : decode cX11_gather 104 = .ok (.getfield 75, 3) := by decide +kernel
theorem dX11_gather_107 : decode cX11_gather 107 = .ok (.getfield 205, 3) := by decide +kernel
theorem dX11_gather_110 : decode cX11_gather 110 = .ok (.invokevirtual 374, 3) := by decide +kernel
theorem dX11_gather_113 : decode cX11_gather 113 = .ok (.iinc 4 1, 3) := by decide +kernel
theorem dX11_gather_116 : decode cX11_gather 116 = .ok (.goto (-108), 3) := by decide +kernel
theorem dX11_gather_119 : decode cX11_gather 119 = .ok (.return_, 1) := by decide +kernel
theorem dX0_isNever_0 : decode cX0_isNever 0 = .ok (.iconst 0, 1) := by decide +kernel
theorem dX0_isNever_1 : decode cX0_isNever 1 = .ok (.istore_n 1, 1) := by decide +kernel
theorem dX0_isNever_2 : decode cX0_isNever 2 = .ok (.iload_n 1, 1) := by decide +kernel
theorem dX0_isNever_3 : decode cX0_isNever 3 = .ok (.aload_n 0, 1) := by decide +kernel
theorem dX0_isNever_4 : decode cX0_isNever 4 = .ok (.getfield 9, 3) := by decide +kernel
theorem dX0_isNever_7 : decode cX0_isNever 7 = .ok (.if_icmp .ge 22, 3) := by decide +kernel
theorem dX0_isNever_10 : decode cX0_isNever 10 = .ok (.aload_n 0, 1) := by decide +kernel
theorem dX0_isNever_11 : decode cX0_isNever 11 = .ok (.getfield 15, 3) := by decide +kernel
theorem dX0_isNever_14 : decode cX0_isNever 14 = .ok (.iload_n 1, 1) := by decide +kernel
theorem dX0_isNever_15 : decode cX0_isNever 15 = .ok (.laload, 1) := by decide +kernel
theorem dX0_isNever_16 : decode cX0_isNever 16 = .ok (.lconst 0, 1) := by decide +kernel
theorem dX0_isNever_17 : decode cX0_isNever 17 = .ok (.lcmp, 1) := by decide +kernel
theorem dX0_isNever_18 : decode cX0_isNever 18 = .ok (.ifCond .gt 5, 3) := by decide +kernel
theorem dX0_isNever_21 : decode cX0_isNever 21 = .ok (.iconst 1, 1) := by decide +kernel
theorem dX0_isNever_22 : decode cX0_isNever 22 = .ok (.ireturn, 1) := by decide +kernel
theorem dX0_isNever_23 : decode cX0_isNever 23 = .ok (.iinc 1 1, 3) := by decide +kernel
theorem dX0_isNever_26 : decode cX0_isNever 26 = .ok (.goto (-24), 3) := by decide +kernel
theorem dX0_isNever_29 : decode cX0_isNever 29 = .ok (.iconst 0, 1) := by decide +kernel
theorem dX0_isNever_30 : decode cX0_isNever 30 = .ok (.ireturn, 1) := by decide +kernel
theorem dX4_factorOf_0 : decode cX4_factorOf 0 = .ok (.iload_n 2, 1) := by decide +kernel
theorem dX4_factorOf_1 : decode cX4_factorOf 1 = .ok (.iconst 2, 1) := by decide +kernel
theorem dX4_factorOf_2 : decode cX4_factorOf 2 = .ok (.idiv, 1) := by decide +kernel
theorem dX4_factorOf_3 : decode cX4_factorOf 3 = .ok (.istore_n 3, 1) := by decide +kernel
theorem dX4_factorOf_4 : decode cX4_factorOf 4 = .ok (.iload_n 2, 1) := by decide +kernel
theorem dX4_factorOf_5 : decode cX4_factorOf 5 = .ok (.iconst 2, 1) := by decide +kernel
theorem dX4_factorOf_6 : decode cX4_factorOf 6 = .ok (.irem, 1) := by decide +kernel
theorem dX4_factorOf_7 : decode cX4_factorOf 7 = .ok (.ifCond .ne 12, 3) := by decide +kernel
theorem dX4_factorOf_10 : decode cX4_factorOf 10 = .ok (.aload_n 0, 1) := by decide +kernel
theorem dX4_factorOf_11 : decode cX4_factorOf 11 = .ok (.getfield 51, 3) := by decide +kernel
theorem dX4_factorOf_14 : decode cX4_factorOf 14 = .ok (.iload_n 3, 1) := by decide +kernel
theorem dX4_factorOf_15 : decode cX4_factorOf 15 = .ok (.laload, 1) := by decide +kernel
theorem dX4_factorOf_16 : decode cX4_factorOf 16 = .ok (.goto 9, 3) := by decide +kernel
theorem dX4_factorOf_19 : decode cX4_factorOf 19 = .ok (.aload_n 1, 1) := by decide +kernel
theorem dX4_factorOf_20 : decode cX4_factorOf 20 = .ok (.getfield 55, 3) := by decide +kernel
theorem dX4_factorOf_23 : decode cX4_factorOf 23 = .ok (.iload_n 3, 1) := by decide +kernel
theorem dX4_factorOf_24 : decode cX4_factorOf 24 = .ok (.laload, 1) := by decide +kernel
theorem dX4_factorOf_25 : decode cX4_factorOf 25 = .ok (.lstore 4, 2) := by decide +kernel
theorem dX4_factorOf_27 : decode cX4_factorOf 27 = .ok (.lconst 1, 1) := by decide +kernel
theorem dX4_factorOf_28 : decode cX4_factorOf 28 = .ok (.lload 4, 2) := by decide +kernel
theorem dX4_factorOf_30 : decode cX4_factorOf 30 = .ok (.invokestatic 58, 3) := by decide +kernel
theorem dX4_factorOf_33 : decode cX4_factorOf 33 = .ok (.lreturn, 1) := by decide +kernel
theorem dX4_roughQuotient_0 : decode cX4_roughQuotient 0 = .ok (.dconst 1, 1) := by decide +kernel
theorem dX4_roughQuotient_1 : decode cX4_roughQuotient 1 = .ok (.dstore_n 3, 1) := by decide +kernel
theorem dX4_roughQuotient_2 : decode cX4_roughQuotient 2 = .ok (.iconst 0, 1) := by decide +kernel
theorem dX4_roughQuotient_3 : decode cX4_roughQuotient 3 = .ok (.istore 5, 2) := by decide +kernel
theorem dX4_roughQuotient_5 : decode cX4_roughQuotient 5 = .ok (.iconst 0, 1) := by decide +kernel
theorem dX4_roughQuotient_6 : decode cX4_roughQuotient 6 = .ok (.istore 6, 2) := by decide +kernel
theorem dX4_roughQuotient_8 : decode cX4_roughQuotient 8 = .ok (.iconst 0, 1) := by decide +kernel
theorem dX4_roughQuotient_9 : decode cX4_roughQuotient 9 = .ok (.istore 7, 2) := by decide +kernel
theorem dX4_roughQuotient_11 : decode cX4_roughQuotient 11 = .ok (.iload 7, 2) := by decide +kernel
theorem dX4_roughQuotient_13 : decode cX4_roughQuotient 13 = .ok (.iconst 4, 1) := by decide +kernel
theorem dX4_roughQuotient_14 : decode cX4_roughQuotient 14 = .ok (.iload_n 2, 1) := by decide +kernel
theorem dX4_roughQuotient_15 : decode cX4_roughQuotient 15 = .ok (.imul, 1) := by decide +kernel
theorem dX4_roughQuotient_16 : decode cX4_roughQuotient 16 = .ok (.if_icmp .ge 74, 3) := by decide +kernel
theorem dX4_roughQuotient_19 : decode cX4_roughQuotient 19 = .ok (.iload 6, 2) := by decide +kernel
theorem dX4_roughQuotient_21 : decode cX4_roughQuotient 21 = .ok (.iconst 2, 1) := by decide +kernel
theorem dX4_roughQuotient_22 : decode cX4_roughQuotient 22 = .ok (.iload_n 2, 1) := by decide +kernel
theorem dX4_roughQuotient_23 : decode cX4_roughQuotient 23 = .ok (.imul, 1) := by decide +kernel
theorem dX4_roughQuotient_24 : decode cX4_roughQuotient 24 = .ok (.if_icmp .ge 17, 3) := by decide +kernel
theorem dX4_roughQuotient_27 : decode cX4_roughQuotient 27 = .ok (.iload 5, 2) := by decide +kernel
theorem dX4_roughQuotient_29 : decode cX4_roughQuotient 29 = .ok (.iconst 2, 1) := by decide +kernel
theorem dX4_roughQuotient_30 : decode cX4_roughQuotient 30 = .ok (.iload_n 2, 1) := by decide +kernel
theorem dX4_roughQuotient_31 : decode cX4_roughQuotient 31 = .ok (.imul, 1) := by decide +kernel
theorem dX4_roughQuotient_32 : decode cX4_roughQuotient 32 = .ok (.if_icmp .ge 13, 3) := by decide +kernel
theorem dX4_roughQuotient_35 : decode cX4_roughQuotient 35 = .ok (.dload_n 3, 1) := by decide +kernel
theorem dX4_roughQuotient_36 : decode cX4_roughQuotient 36 = .ok (.dconst 1, 1) := by decide +kernel
theorem dX4_roughQuotient_37 : decode cX4_roughQuotient 37 = .ok (.dcmp .g, 1) := by decide +kernel
theorem dX4_roughQuotient_38 : decode cX4_roughQuotient 38 = .ok (.ifCond .gt 7, 3) := by decide +kernel
theorem dX4_roughQuotient_41 : decode cX4_roughQuotient 41 = .ok (.iconst 1, 1) := by decide +kernel
theorem dX4_roughQuotient_42 : decode cX4_roughQuotient 42 = .ok (.goto 4, 3) := by decide +kernel
theorem dX4_roughQuotient_45 : decode cX4_roughQuotient 45 = .ok (.iconst 0, 1) := by decide +kernel
theorem dX4_roughQuotient_46 : decode cX4_roughQuotient 46 = .ok (.istore 8, 2) := by decide +kernel
theorem dX4_roughQuotient_48 : decode cX4_roughQuotient 48 = .ok (.iload 8, 2) := by decide +kernel
theorem dX4_roughQuotient_50 : decode cX4_roughQuotient 50 = .ok (.ifCond .eq 20, 3) := by decide +kernel
theorem dX4_roughQuotient_53 : decode cX4_roughQuotient 53 = .ok (.dload_n 3, 1) := by decide +kernel
theorem dX4_roughQuotient_54 : decode cX4_roughQuotient 54 = .ok (.aload_n 0, 1) := by decide +kernel
theorem dX4_roughQuotient_55 : decode cX4_roughQuotient 55 = .ok (.aload_n 1, 1) := by decide +kernel
theorem dX4_roughQuotient_56 : decode cX4_roughQuotient 56 = .ok (.iload 5, 2) := by decide +kernel
theorem dX4_roughQuotient_58 : decode cX4_roughQuotient 58 = .ok (.invokestatic 47, 3) := by decide +kernel
theorem dX4_roughQuotient_61 : decode cX4_roughQuotient 61 = .ok (.l2d, 1) := by decide +kernel
theorem dX4_roughQuotient_62 : decode cX4_roughQuotient 62 = .ok (.dmul, 1) := by decide +kernel
theorem dX4_roughQuotient_63 : decode cX4_roughQuotient 63 = .ok (.dstore_n 3, 1) := by decide +kernel
theorem dX4_roughQuotient_64 : decode cX4_roughQuotient 64 = .ok (.iinc 5 1, 3) := by decide +kernel
theorem dX4_roughQuotient_67 : decode cX4_roughQuotient 67 = .ok (.goto 17, 3) := by decide +kernel
theorem dX4_roughQuotient_70 : decode cX4_roughQuotient 70 = .ok (.dload_n 3, 1) := by decide +kernel
theorem dX4_roughQuotient_71 : decode cX4_roughQuotient 71 = .ok (.aload_n 1, 1) := by decide +kernel
theorem dX4_roughQuotient_72 : decode cX4_roughQuotient 72 = .ok (.aload_n 0, 1) := by decide +kernel
theorem dX4_roughQuotient_73 : decode cX4_roughQuotient 73 = .ok (.iload 6, 2) := by decide +kernel
theorem dX4_roughQuotient_75 : decode cX4_roughQuotient 75 = .ok (.invokestatic 47, 3) := by decide +kernel
theorem dX4_roughQuotient_78 : decode cX4_roughQuotient 78 = .ok (.l2d, 1) := by decide +kernel
theorem dX4_roughQuotient_79 : decode cX4_roughQuotient 79 = .ok (.ddiv, 1) := by decide +kernel
theorem dX4_roughQuotient_80 : decode cX4_roughQuotient 80 = .ok (.dstore_n 3, 1) := by decide +kernel
theorem dX4_roughQuotient_81 : decode cX4_roughQuotient 81 = .ok (.iinc 6 1, 3) := by decide +kernel
theorem dX4_roughQuotient_84 : decode cX4_roughQuotient 84 = .ok (.iinc 7 1, 3) := by decide +kernel
theorem dX4_roughQuotient_87 : decode cX4_roughQuotient 87 = .ok (.goto (-76), 3) := by decide +kernel
theorem dX4_roughQuotient_90 : decode cX4_roughQuotient 90 = .ok (.dload_n 3, 1) := by decide +kernel
theorem dX4_roughQuotient_91 : decode cX4_roughQuotient 91 = .ok (.dreturn, 1) := by decide +kernel
theorem dX1_begin_0 : decode cX1_begin 0 = .ok (.aload_n 0, 1) := by decide +kernel
theorem dX1_begin_1 : decode cX1_begin 1 = .ok (.getfield 9, 3) := by decide +kernel
theorem dX1_begin_4 : decode cX1_begin 4 = .ok (.iconst 0, 1) := by decide +kernel
theorem dX1_begin_5 : decode cX1_begin 5 = .ok (.lconst 1, 1) := by decide +kernel
theorem dX1_begin_6 : decode cX1_begin 6 = .ok (.lastore, 1) := by decide +kernel
theorem dX1_begin_7 : decode cX1_begin 7 = .ok (.aload_n 0, 1) := by decide +kernel
theorem dX1_begin_8 : decode cX1_begin 8 = .ok (.iconst 1, 1) := by decide +kernel
theorem dX1_begin_9 : decode cX1_begin 9 = .ok (.putfield 13, 3) := by decide +kernel
theorem dX1_begin_12 : decode cX1_begin 12 = .ok (.return_, 1) := by decide +kernel
theorem dX1_compareWith_0 : decode cX1_compareWith 0 = .ok (.aload_n 0, 1) := by decide +kernel
theorem dX1_compareWith_1 : decode cX1_compareWith 1 = .ok (.getfield 13, 3) := by decide +kernel
theorem dX1_compareWith_4 : decode cX1_compareWith 4 = .ok (.aload_n 1, 1) := by decide +kernel
theorem dX1_compareWith_5 : decode cX1_compareWith 5 = .ok (.getfield 13, 3) := by decide +kernel
theorem dX1_compareWith_8 : decode cX1_compareWith 8 = .ok (.if_icmp .eq 20, 3) := by decide +kernel
theorem dX1_compareWith_11 : decode cX1_compareWith 11 = .ok (.aload_n 0, 1) := by decide +kernel
theorem dX1_compareWith_12 : decode cX1_compareWith 12 = .ok (.getfield 13, 3) := by decide +kernel
theorem dX1_compareWith_15 : decode cX1_compareWith 15 = .ok (.aload_n 1, 1) := by decide +kernel
theorem dX1_compareWith_16 : decode cX1_compareWith 16 = .ok (.getfield 13, 3) := by decide +kernel
theorem dX1_compareWith_19 : decode cX1_compareWith 19 = .ok (.if_icmp .le 7, 3) := by decide +kernel
theorem dX1_compareWith_22 : decode cX1_compareWith 22 = .ok (.iconst 1, 1) := by decide +kernel
theorem dX1_compareWith_23 : decode cX1_compareWith 23 = .ok (.goto 4, 3) := by decide +kernel
theorem dX1_compareWith_26 : decode cX1_compareWith 26 = .ok (.iconst (-1), 1) := by decide +kernel
theorem dX1_compareWith_27 : decode cX1_compareWith 27 = .ok (.ireturn, 1) := by decide +kernel
theorem dX1_compareWith_28 : decode cX1_compareWith 28 = .ok (.aload_n 0, 1) := by decide +kernel
theorem dX1_compareWith_29 : decode cX1_compareWith 29 = .ok (.getfield 13, 3) := by decide +kernel
theorem dX1_compareWith_32 : decode cX1_compareWith 32 = .ok (.iconst 1, 1) := by decide +kernel
theorem dX1_compareWith_33 : decode cX1_compareWith 33 = .ok (.isub, 1) := by decide +kernel
theorem dX1_compareWith_34 : decode cX1_compareWith 34 = .ok (.istore_n 2, 1) := by decide +kernel
theorem dX1_compareWith_35 : decode cX1_compareWith 35 = .ok (.iload_n 2, 1) := by decide +kernel
theorem dX1_compareWith_36 : decode cX1_compareWith 36 = .ok (.ifCond .lt 47, 3) := by decide +kernel
theorem dX1_compareWith_39 : decode cX1_compareWith 39 = .ok (.aload_n 0, 1) := by decide +kernel
theorem dX1_compareWith_40 : decode cX1_compareWith 40 = .ok (.getfield 9, 3) := by decide +kernel
theorem dX1_compareWith_43 : decode cX1_compareWith 43 = .ok (.iload_n 2, 1) := by decide +kernel
theorem dX1_compareWith_44 : decode cX1_compareWith 44 = .ok (.laload, 1) := by decide +kernel
theorem dX1_compareWith_45 : decode cX1_compareWith 45 = .ok (.aload_n 1, 1) := by decide +kernel
theorem dX1_compareWith_46 : decode cX1_compareWith 46 = .ok (.getfield 9, 3) := by decide +kernel
theorem dX1_compareWith_49 : decode cX1_compareWith 49 = .ok (.iload_n 2, 1) := by decide +kernel
theorem dX1_compareWith_50 : decode cX1_compareWith 50 = .ok (.laload, 1) := by decide +kernel
theorem dX1_compareWith_51 : decode cX1_compareWith 51 = .ok (.lcmp, 1) := by decide +kernel
theorem dX1_compareWith_52 : decode cX1_compareWith 52 = .ok (.ifCond .eq 25, 3) := by decide +kernel
theorem dX1_compareWith_55 : decode cX1_compareWith 55 = .ok (.aload_n 0, 1) := by decide +kernel
theorem dX1_compareWith_56 : decode cX1_compareWith 56 = .ok (.getfield 9, 3) := by decide +kernel
theorem dX1_compareWith_59 : decode cX1_compareWith 59 = .ok (.iload_n 2, 1) := by decide +kernel
theorem dX1_compareWith_60 : decode cX1_compareWith 60 = .ok (.laload, 1) := by decide +kernel
theorem dX1_compareWith_61 : decode cX1_compareWith 61 = .ok (.aload_n 1, 1) := by decide +kernel
theorem dX1_compareWith_62 : decode cX1_compareWith 62 = .ok (.getfield 9, 3) := by decide +kernel
theorem dX1_compareWith_65 : decode cX1_compareWith 65 = .ok (.iload_n 2, 1) := by decide +kernel
theorem dX1_compareWith_66 : decode cX1_compareWith 66 = .ok (.laload, 1) := by decide +kernel
theorem dX1_compareWith_67 : decode cX1_compareWith 67 = .ok (.lcmp, 1) := by decide +kernel
theorem dX1_compareWith_68 : decode cX1_compareWith 68 = .ok (.ifCond .le 7, 3) := by decide +kernel
theorem dX1_compareWith_71 : decode cX1_compareWith 71 = .ok (.iconst 1, 1) := by decide +kernel
theorem dX1_compareWith_72 : decode cX1_compareWith 72 = .ok (.goto 4, 3) := by decide +kernel
theorem dX1_compareWith_75 : decode cX1_compareWith 75 = .ok (.iconst (-1), 1) := by decide +kernel
theorem dX1_compareWith_76 : decode cX1_compareWith 76 = .ok (.ireturn, 1) := by decide +kernel
theorem dX1_compareWith_77 : decode cX1_compareWith 77 = .ok (.iinc 2 (-1), 3) := by decide +kernel
theorem dX1_compareWith_80 : decode cX1_compareWith 80 = .ok (.goto (-45), 3) := by decide +kernel
theorem dX1_compareWith_83 : decode cX1_compareWith 83 = .ok (.iconst 0, 1) := by decide +kernel
theorem dX1_compareWith_84 : decode cX1_compareWith 84 = .ok (.ireturn, 1) := by decide +kernel
theorem dX1_times_0 : decode cX1_times 0 = .ok (.lconst 0, 1) := by decide +kernel
theorem dX1_times_1 : decode cX1_times 1 = .ok (.lstore_n 3, 1) := by decide +kernel
theorem dX1_times_2 : decode cX1_times 2 = .ok (.iconst 0, 1) := by decide +kernel
theorem dX1_times_3 : decode cX1_times 3 = .ok (.istore 5, 2) := by decide +kernel
theorem dX1_times_5 : decode cX1_times 5 = .ok (.iload 5, 2) := by decide +kernel
theorem dX1_times_7 : decode cX1_times 7 = .ok (.aload_n 0, 1) := by decide +kernel
theorem dX1_times_8 : decode cX1_times 8 = .ok (.getfield 13, 3) := by decide +kernel
theorem dX1_times_11 : decode cX1_times 11 = .ok (.if_icmp .ge 41, 3) := by decide +kernel
theorem dX1_times_14 : decode cX1_times 14 = .ok (.aload_n 0, 1) := by decide +kernel
theorem dX1_times_15 : decode cX1_times 15 = .ok (.getfield 9, 3) := by decide +kernel
theorem dX1_times_18 : decode cX1_times 18 = .ok (.iload 5, 2) := by decide +kernel
theorem dX1_times_20 : decode cX1_times 20 = .ok (.laload, 1) := by decide +kernel
theorem dX1_times_21 : decode cX1_times 21 = .ok (.lload_n 1, 1) := by decide +kernel
theorem dX1_times_22 : decode cX1_times 22 = .ok (.lmul, 1) := by decide +kernel
theorem dX1_times_23 : decode cX1_times 23 = .ok (.lload_n 3, 1) := by decide +kernel
theorem dX1_times_24 : decode cX1_times 24 = .ok (.ladd, 1) := by decide +kernel
theorem dX1_times_25 : decode cX1_times 25 = .ok (.lstore 6, 2) := by decide +kernel
theorem dX1_times_27 : decode cX1_times 27 = .ok (.aload_n 0, 1) := by decide +kernel
theorem dX1_times_28 : decode cX1_times 28 = .ok (.getfield 9, 3) := by decide +kernel
theorem dX1_times_31 : decode cX1_times 31 = .ok (.iload 5, 2) := by decide +kernel
theorem dX1_times_33 : decode cX1_times 33 = .ok (.lload 6, 2) := by decide +kernel
theorem dX1_times_35 : decode cX1_times 35 = .ok (.ldc2_w 17, 3) := by decide +kernel
theorem dX1_times_38 : decode cX1_times 38 = .ok (.land, 1) := by decide +kernel
theorem dX1_times_39 : decode cX1_times 39 = .ok (.lastore, 1) := by decide +kernel
theorem dX1_times_40 : decode cX1_times 40 = .ok (.lload 6, 2) := by decide +kernel
theorem dX1_times_42 : decode cX1_times 42 = .ok (.bipush 30, 2) := by decide +kernel
theorem dX1_times_44 : decode cX1_times 44 = .ok (.lushr, 1) := by decide +kernel
theorem dX1_times_45 : decode cX1_times 45 = .ok (.lstore_n 3, 1) := by decide +kernel
theorem dX1_times_46 : decode cX1_times 46 = .ok (.iinc 5 1, 3) := by decide +kernel
theorem dX1_times_49 : decode cX1_times 49 = .ok (.goto (-44), 3) := by decide +kernel
theorem dX1_times_52 : decode cX1_times 52 = .ok (.lload_n 3, 1) := by decide +kernel
theorem dX1_times_53 : decode cX1_times 53 = .ok (.lconst 0, 1) := by decide +kernel
theorem dX1_times_54 : decode cX1_times 54 = .ok (.lcmp, 1) := by decide +kernel
theorem dX1_times_55 : decode cX1_times 55 = .ok (.ifCond .le 33, 3) := by decide +kernel
theorem dX1_times_58 : decode cX1_times 58 = .ok (.aload_n 0, 1) := by decide +kernel
theorem dX1_times_59 : decode cX1_times 59 = .ok (.getfield 13, 3) := by decide +kernel
theorem dX1_times_62 : decode cX1_times 62 = .ok (.sipush 128, 3) := by decide +kernel
theorem dX1_times_65 : decode cX1_times 65 = .ok (.if_icmp .ge 23, 3) := by decide +kernel
theorem dX1_times_68 : decode cX1_times 68 = .ok (.aload_n 0, 1) := by decide +kernel
theorem dX1_times_69 : decode cX1_times 69 = .ok (.getfield 9, 3) := by decide +kernel
theorem dX1_times_72 : decode cX1_times 72 = .ok (.aload_n 0, 1) := by decide +kernel
theorem dX1_times_73 : decode cX1_times 73 = .ok (.getfield 13, 3) := by decide +kernel
theorem dX1_times_76 : decode cX1_times 76 = .ok (.lload_n 3, 1) := by decide +kernel
theorem dX1_times_77 : decode cX1_times 77 = .ok (.lastore, 1) := by decide +kernel
theorem dX1_times_78 : decode cX1_times 78 = .ok (.aload_n 0, 1) := by decide +kernel
theorem dX1_times_79 : decode cX1_times 79 = .ok (.dup, 1) := by decide +kernel
theorem dX1_times_80 : decode cX1_times 80 = .ok (.getfield 13, 3) := by decide +kernel
theorem dX1_times_83 : decode cX1_times 83 = .ok (.iconst 1, 1) := by decide +kernel
theorem dX1_times_84 : decode cX1_times 84 = .ok (.iadd, 1) := by decide +kernel
theorem dX1_times_85 : decode cX1_times 85 = .ok (.putfield 13, 3) := by decide +kernel
theorem dX1_times_88 : decode cX1_times 88 = .ok (.return_, 1) := by decide +kernel
theorem dX4_compareExactly_0 : decode cX4_compareExactly 0 = .ok (.aload_n 0, 1) := by decide +kernel
theorem dX4_compareExactly_1 : decode cX4_compareExactly 1 = .ok (.getfield 10, 3) := by decide +kernel
theorem dX4_compareExactly_4 : decode cX4_compareExactly 4 = .ok (.invokevirtual 62, 3) := by decide +kernel
theorem dX4_compareExactly_7 : decode cX4_compareExactly 7 = .ok (.aload_n 0, 1) := by decide +kernel
theorem dX4_compareExactly_8 : decode cX4_compareExactly 8 = .ok (.getfield 16, 3) := by decide +kernel
theorem dX4_compareExactly_11 : decode cX4_compareExactly 11 = .ok (.invokevirtual 62, 3) := by decide +kernel
theorem dX4_compareExactly_14 : decode cX4_compareExactly 14 = .ok (.iconst 0, 1) := by decide +kernel
theorem dX4_compareExactly_15 : decode cX4_compareExactly 15 = .ok (.istore 4, 2) := by decide +kernel
theorem dX4_compareExactly_17 : decode cX4_compareExactly 17 = .ok (.iload 4, 2) := by decide +kernel
theorem dX4_compareExactly_19 : decode cX4_compareExactly 19 = .ok (.iload_n 3, 1) := by decide +kernel
theorem dX4_compareExactly_20 : decode cX4_compareExactly 20 = .ok (.if_icmp .ge 99, 3) := by decide +kernel
theorem dX4_compareExactly_23 : decode cX4_compareExactly 23 = .ok (.aload_n 1, 1) := by decide +kernel
theorem dX4_compareExactly_24 : decode cX4_compareExactly 24 = .ok (.getfield 51, 3) := by decide +kernel
theorem dX4_compareExactly_27 : decode cX4_compareExactly 27 = .ok (.iload 4, 2) := by decide +kernel
theorem dX4_compareExactly_29 : decode cX4_compareExactly 29 = .ok (.laload, 1) := by decide +kernel
theorem dX4_compareExactly_30 : decode cX4_compareExactly 30 = .ok (.aload_n 2, 1) := by decide +kernel
theorem dX4_compareExactly_31 : decode cX4_compareExactly 31 = .ok (.getfield 55, 3) := by decide +kernel
theorem dX4_compareExactly_34 : decode cX4_compareExactly 34 = .ok (.iload 4, 2) := by decide +kernel
theorem dX4_compareExactly_36 : decode cX4_compareExactly 36 = .ok (.laload, 1) := by decide +kernel
theorem dX4_compareExactly_37 : decode cX4_compareExactly 37 = .ok (.lmul, 1) := by decide +kernel
theorem dX4_compareExactly_38 : decode cX4_compareExactly 38 = .ok (.aload_n 2, 1) := by decide +kernel
theorem dX4_compareExactly_39 : decode cX4_compareExactly 39 = .ok (.getfield 51, 3) := by decide +kernel
theorem dX4_compareExactly_42 : decode cX4_compareExactly 42 = .ok (.iload 4, 2) := by decide +kernel
theorem dX4_compareExactly_44 : decode cX4_compareExactly 44 = .ok (.laload, 1) := by decide +kernel
theorem dX4_compareExactly_45 : decode cX4_compareExactly 45 = .ok (.aload_n 1, 1) := by decide +kernel
theorem dX4_compareExactly_46 : decode cX4_compareExactly 46 = .ok (.getfield 55, 3) := by decide +kernel
theorem dX4_compareExactly_49 : decode cX4_compareExactly 49 = .ok (.iload 4, 2) := by decide +kernel
theorem dX4_compareExactly_51 : decode cX4_compareExactly 51 = .ok (.laload, 1) := by decide +kernel
theorem dX4_compareExactly_52 : decode cX4_compareExactly 52 = .ok (.lmul, 1) := by decide +kernel
theorem dX4_compareExactly_53 : decode cX4_compareExactly 53 = .ok (.lcmp, 1) := by decide +kernel
theorem dX4_compareExactly_54 : decode cX4_compareExactly 54 = .ok (.ifCond .eq 59, 3) := by decide +kernel
theorem dX4_compareExactly_57 : decode cX4_compareExactly 57 = .ok (.aload_n 0, 1) := by decide +kernel
theorem dX4_compareExactly_58 : decode cX4_compareExactly 58 = .ok (.getfield 10, 3) := by decide +kernel
theorem dX4_compareExactly_61 : decode cX4_compareExactly 61 = .ok (.aload_n 1, 1) := by decide +kernel
theorem dX4_compareExactly_62 : decode cX4_compareExactly 62 = .ok (.getfield 51, 3) := by decide +kernel
theorem dX4_compareExactly_65 : decode cX4_compareExactly 65 = .ok (.iload 4, 2) := by decide +kernel
theorem dX4_compareExactly_67 : decode cX4_compareExactly 67 = .ok (.laload, 1) := by decide +kernel
theorem dX4_compareExactly_68 : decode cX4_compareExactly 68 = .ok (.invokevirtual 65, 3) := by decide +kernel
theorem dX4_compareExactly_71 : decode cX4_compareExactly 71 = .ok (.aload_n 0, 1) := by decide +kernel
theorem dX4_compareExactly_72 : decode cX4_compareExactly 72 = .ok (.getfield 10, 3) := by decide +kernel
theorem dX4_compareExactly_75 : decode cX4_compareExactly 75 = .ok (.aload_n 2, 1) := by decide +kernel
theorem dX4_compareExactly_76 : decode cX4_compareExactly 76 = .ok (.getfield 55, 3) := by decide +kernel
theorem dX4_compareExactly_79 : decode cX4_compareExactly 79 = .ok (.iload 4, 2) := by decide +kernel
theorem dX4_compareExactly_81 : decode cX4_compareExactly 81 = .ok (.laload, 1) := by decide +kernel
theorem dX4_compareExactly_82 : decode cX4_compareExactly 82 = .ok (.invokevirtual 65, 3) := by decide +kernel
theorem dX4_compareExactly_85 : decode cX4_compareExactly 85 = .ok (.aload_n 0, 1) := by decide +kernel
theorem dX4_compareExactly_86 : decode cX4_compareExactly 86 = .ok (.getfield 16, 3) := by decide +kernel
theorem dX4_compareExactly_89 : decode cX4_compareExactly 89 = .ok (.aload_n 2, 1) := by decide +kernel
theorem dX4_compareExactly_90 : decode cX4_compareExactly 90 = .ok (.getfield 51, 3) := by decide +kernel
theorem dX4_compareExactly_93 : decode cX4_compareExactly 93 = .ok (.iload 4, 2) := by decide +kernel
theorem dX4_compareExactly_95 : decode cX4_compareExactly 95 = .ok (.laload, 1) := by decide +kernel
theorem dX4_compareExactly_96 : decode cX4_compareExactly 96 = .ok (.invokevirtual 65, 3) := by decide +kernel
theorem dX4_compareExactly_99 : decode cX4_compareExactly 99 = .ok (.aload_n 0, 1) := by decide +kernel
theorem dX4_compareExactly_100 : decode cX4_compareExactly 100 = .ok (.getfield 16, 3) := by decide +kernel
theorem dX4_compareExactly_103 : decode cX4_compareExactly 103 = .ok (.aload_n 1, 1) := by decide +kernel
theorem dX4_compareExactly_104 : decode cX4_compareExactly 104 = .ok (.getfield 55, 3) := by decide +kernel
theorem dX4_compareExactly_107 : decode cX4_compareExactly 107 = .ok (.iload 4, 2) := by decide +kernel
theorem dX4_compareExactly_109 : decode cX4_compareExactly 109 = .ok (.laload, 1) := by decide +kernel
theorem dX4_compareExactly_110 : decode cX4_compareExactly 110 = .ok (.invokevirtual 65, 3) := by decide +kernel
theorem dX4_compareExactly_113 : decode cX4_compareExactly 113 = .ok (.iinc 4 1, 3) := by decide +kernel
theorem dX4_compareExactly_116 : decode cX4_compareExactly 116 = .ok (.goto (-99), 3) := by decide +kernel
theorem dX4_compareExactly_119 : decode cX4_compareExactly 119 = .ok (.aload_n 0, 1) := by decide +kernel
theorem dX4_compareExactly_120 : decode cX4_compareExactly 120 = .ok (.getfield 10, 3) := by decide +kernel
theorem dX4_compareExactly_123 : decode cX4_compareExactly 123 = .ok (.aload_n 0, 1) := by decide +kernel
theorem dX4_compareExactly_124 : decode cX4_compareExactly 124 = .ok (.getfield 16, 3) := by decide +kernel
theorem dX4_compareExactly_127 : decode cX4_compareExactly 127 = .ok (.invokevirtual 69, 3) := by decide +kernel
theorem dX4_compareExactly_130 : decode cX4_compareExactly 130 = .ok (.ireturn, 1) := by decide +kernel
theorem dX4_compareProducts_0 : decode cX4_compareProducts 0 = .ok (.aload_n 1, 1) := by decide +kernel
theorem dX4_compareProducts_1 : decode cX4_compareProducts 1 = .ok (.invokevirtual 19, 3) := by decide +kernel
theorem dX4_compareProducts_4 : decode cX4_compareProducts 4 = .ok (.istore_n 3, 1) := by decide +kernel
theorem dX4_compareProducts_5 : decode cX4_compareProducts 5 = .ok (.aload_n 2, 1) := by decide +kernel
theorem dX4_compareProducts_6 : decode cX4_compareProducts 6 = .ok (.invokevirtual 19, 3) := by decide +kernel
theorem dX4_compareProducts_9 : decode cX4_compareProducts 9 = .ok (.istore 4, 2) := by decide +kernel
theorem dX4_compareProducts_11 : decode cX4_compareProducts 11 = .ok (.iload_n 3, 1) := by decide +kernel
theorem dX4_compareProducts_12 : decode cX4_compareProducts 12 = .ok (.ifCond .ne 8, 3) := by decide +kernel
theorem dX4_compareProducts_15 : decode cX4_compareProducts 15 = .ok (.iload 4, 2) := by decide +kernel
theorem dX4_compareProducts_17 : decode cX4_compareProducts 17 = .ok (.ifCond .eq 24, 3) := by decide +kernel
theorem dX4_compareProducts_20 : decode cX4_compareProducts 20 = .ok (.iload 4, 2) := by decide +kernel
theorem dX4_compareProducts_22 : decode cX4_compareProducts 22 = .ok (.ifCond .eq 7, 3) := by decide +kernel
theorem dX4_compareProducts_25 : decode cX4_compareProducts 25 = .ok (.iconst 1, 1) := by decide +kernel
theorem dX4_compareProducts_26 : decode cX4_compareProducts 26 = .ok (.goto 4, 3) := by decide +kernel
theorem dX4_compareProducts_29 : decode cX4_compareProducts 29 = .ok (.iconst 0, 1) := by decide +kernel
theorem dX4_compareProducts_30 : decode cX4_compareProducts 30 = .ok (.iload_n 3, 1) := by decide +kernel
theorem dX4_compareProducts_31 : decode cX4_compareProducts 31 = .ok (.ifCond .eq 7, 3) := by decide +kernel
theorem dX4_compareProducts_34 : decode cX4_compareProducts 34 = .ok (.iconst 1, 1) := by decide +kernel
theorem dX4_compareProducts_35 : decode cX4_compareProducts 35 = .ok (.goto 4, 3) := by decide +kernel
theorem dX4_compareProducts_38 : decode cX4_compareProducts 38 = .ok (.iconst 0, 1) := by decide +kernel
theorem dX4_compareProducts_39 : decode cX4_compareProducts 39 = .ok (.isub, 1) := by decide +kernel
theorem dX4_compareProducts_40 : decode cX4_compareProducts 40 = .ok (.ireturn, 1) := by decide +kernel
theorem dX4_compareProducts_41 : decode cX4_compareProducts 41 = .ok (.aload_n 1, 1) := by decide +kernel
theorem dX4_compareProducts_42 : decode cX4_compareProducts 42 = .ok (.getfield 25, 3) := by decide +kernel
theorem dX4_compareProducts_45 : decode cX4_compareProducts 45 = .ok (.aload_n 2, 1) := by decide +kernel
theorem dX4_compareProducts_46 : decode cX4_compareProducts 46 = .ok (.getfield 25, 3) := by decide +kernel
theorem dX4_compareProducts_49 : decode cX4_compareProducts 49 = .ok (.invokestatic 29, 3) := by decide +kernel
theorem dX4_compareProducts_52 : decode cX4_compareProducts 52 = .ok (.istore 5, 2) := by decide +kernel
theorem dX4_compareProducts_54 : decode cX4_compareProducts 54 = .ok (.aload_n 1, 1) := by decide +kernel
theorem dX4_compareProducts_55 : decode cX4_compareProducts 55 = .ok (.aload_n 2, 1) := by decide +kernel
theorem dX4_compareProducts_56 : decode cX4_compareProducts 56 = .ok (.iload 5, 2) := by decide +kernel
theorem dX4_compareProducts_58 : decode cX4_compareProducts 58 = .ok (.invokestatic 35, 3) := by decide +kernel
theorem dX4_compareProducts_61 : decode cX4_compareProducts 61 = .ok (.dstore 6, 2) := by decide +kernel
theorem dX4_compareProducts_63 : decode cX4_compareProducts 63 = .ok (.dload 6, 2) := by decide +kernel
theorem dX4_compareProducts_65 : decode cX4_compareProducts 65 = .ok (.ldc2_w 39, 3) := by decide +kernel
theorem dX4_compareProducts_68 : decode cX4_compareProducts 68 = .ok (.dcmp .l, 1) := by decide +kernel
theorem dX4_compareProducts_69 : decode cX4_compareProducts 69 = .ok (.ifCond .le 5, 3) := by decide +kernel
theorem dX4_compareProducts_72 : decode cX4_compareProducts 72 = .ok (.iconst 1, 1) := by decide +kernel
theorem dX4_compareProducts_73 : decode cX4_compareProducts 73 = .ok (.ireturn, 1) := by decide +kernel
theorem dX4_compareProducts_74 : decode cX4_compareProducts 74 = .ok (.dload 6, 2) := by decide +kernel
theorem dX4_compareProducts_76 : decode cX4_compareProducts 76 = .ok (.ldc2_w 41, 3) := by decide +kernel
theorem dX4_compareProducts_79 : decode cX4_compareProducts 79 = .ok (.dcmp .g, 1) := by decide +kernel
theorem dX4_compareProducts_80 : decode cX4_compareProducts 80 = .ok (.ifCond .ge 5, 3) := by decide +kernel
theorem dX4_compareProducts_83 : decode cX4_compareProducts 83 = .ok (.iconst (-1), 1) := by decide +kernel
theorem dX4_compareProducts_84 : decode cX4_compareProducts 84 = .ok (.ireturn, 1) := by decide +kernel
theorem dX4_compareProducts_85 : decode cX4_compareProducts 85 = .ok (.aload_n 0, 1) := by decide +kernel
theorem dX4_compareProducts_86 : decode cX4_compareProducts 86 = .ok (.aload_n 1, 1) := by decide +kernel
theorem dX4_compareProducts_87 : decode cX4_compareProducts 87 = .ok (.aload_n 2, 1) := by decide +kernel
theorem dX4_compareProducts_88 : decode cX4_compareProducts 88 = .ok (.iload 5, 2) := by decide +kernel
theorem dX4_compareProducts_90 : decode cX4_compareProducts 90 = .ok (.invokevirtual 43, 3) := by decide +kernel
theorem dX4_compareProducts_93 : decode cX4_compareProducts 93 = .ok (.ireturn, 1) := by decide +kernel
theorem dX11_more_0 : decode cX11_more 0 = .ok (.iload_n 1, 1) := by decide +kernel
theorem dX11_more_1 : decode cX11_more 1 = .ok (.invokestatic 262, 3) := by decide +kernel
theorem dX11_more_4 : decode cX11_more 4 = .ok (.ifCond .eq 18, 3) := by decide +kernel
theorem dX11_more_7 : decode cX11_more 7 = .ok (.iload_n 2, 1) := by decide +kernel
theorem dX11_more_8 : decode cX11_more 8 = .ok (.invokestatic 262, 3) := by decide +kernel
theorem dX11_more_11 : decode cX11_more 11 = .ok (.ifCond .eq 11, 3) := by decide +kernel
theorem dX11_more_14 : decode cX11_more 14 = .ok (.aload_n 0, 1) := by decide +kernel
theorem dX11_more_15 : decode cX11_more 15 = .ok (.iload_n 3, 1) := by decide +kernel
theorem dX11_more_16 : decode cX11_more 16 = .ok (.invokevirtual 265, 3) := by decide +kernel
theorem dX11_more_19 : decode cX11_more 19 = .ok (.ifCond .ne 5, 3) := by decide +kernel
theorem dX11_more_22 : decode cX11_more 22 = .ok (.iconst (-1), 1) := by decide +kernel
theorem dX11_more_23 : decode cX11_more 23 = .ok (.ireturn, 1) := by decide +kernel
theorem dX11_more_24 : decode cX11_more 24 = .ok (.aload_n 0, 1) := by decide +kernel
theorem dX11_more_25 : decode cX11_more 25 = .ok (.aload_n 0, 1) := by decide +kernel
theorem dX11_more_26 : decode cX11_more 26 = .ok (.getfield 93, 3) := by decide +kernel
theorem dX11_more_29 : decode cX11_more 29 = .ok (.iload_n 1, 1) := by decide +kernel
theorem dX11_more_30 : decode cX11_more 30 = .ok (.iload_n 3, 1) := by decide +kernel
theorem dX11_more_31 : decode cX11_more 31 = .ok (.invokevirtual 268, 3) := by decide +kernel
theorem dX11_more_34 : decode cX11_more 34 = .ok (.aload_n 0, 1) := by decide +kernel
theorem dX11_more_35 : decode cX11_more 35 = .ok (.aload_n 0, 1) := by decide +kernel
theorem dX11_more_36 : decode cX11_more 36 = .ok (.getfield 97, 3) := by decide +kernel
theorem dX11_more_39 : decode cX11_more 39 = .ok (.iload_n 2, 1) := by decide +kernel
theorem dX11_more_40 : decode cX11_more 40 = .ok (.iload_n 3, 1) := by decide +kernel
theorem dX11_more_41 : decode cX11_more 41 = .ok (.invokevirtual 268, 3) := by decide +kernel
theorem dX11_more_44 : decode cX11_more 44 = .ok (.aload_n 0, 1) := by decide +kernel
theorem dX11_more_45 : decode cX11_more 45 = .ok (.getfield 82, 3) := by decide +kernel
theorem dX11_more_48 : decode cX11_more 48 = .ok (.aload_n 0, 1) := by decide +kernel
theorem dX11_more_49 : decode cX11_more 49 = .ok (.getfield 93, 3) := by decide +kernel
theorem dX11_more_52 : decode cX11_more 52 = .ok (.aload_n 0, 1) := by decide +kernel
theorem dX11_more_53 : decode cX11_more 53 = .ok (.getfield 97, 3) := by decide +kernel
theorem dX11_more_56 : decode cX11_more 56 = .ok (.invokevirtual 272, 3) := by decide +kernel
theorem dX11_more_59 : decode cX11_more 59 = .ok (.istore 4, 2) := by decide +kernel
theorem dX11_more_61 : decode cX11_more 61 = .ok (.iload 4, 2) := by decide +kernel
theorem dX11_more_63 : decode cX11_more 63 = .ok (.ifCond .ne 5, 3) := by decide +kernel
theorem dX11_more_66 : decode cX11_more 66 = .ok (.iconst 0, 1) := by decide +kernel
theorem dX11_more_67 : decode cX11_more 67 = .ok (.ireturn, 1) := by decide +kernel
theorem dX11_more_68 : decode cX11_more 68 = .ok (.iload 4, 2) := by decide +kernel
theorem dX11_more_70 : decode cX11_more 70 = .ok (.ifCond .le 7, 3) := by decide +kernel
theorem dX11_more_73 : decode cX11_more 73 = .ok (.iconst 1, 1) := by decide +kernel
theorem dX11_more_74 : decode cX11_more 74 = .ok (.goto 4, 3) := by decide +kernel
theorem dX11_more_77 : decode cX11_more 77 = .ok (.iconst 2, 1) := by decide +kernel
theorem dX11_more_78 : decode cX11_more 78 = .ok (.ireturn, 1) := by decide +kernel
theorem dX11_keepsTried_0 : decode cX11_keepsTried 0 = .ok (.aload_n 0, 1) := by decide +kernel
theorem dX11_keepsTried_1 : decode cX11_keepsTried 1 = .ok (.getfield 82, 3) := by decide +kernel
theorem dX11_keepsTried_4 : decode cX11_keepsTried 4 = .ok (.aload_n 0, 1) := by decide +kernel
theorem dX11_keepsTried_5 : decode cX11_keepsTried 5 = .ok (.getfield 97, 3) := by decide +kernel
theorem dX11_keepsTried_8 : decode cX11_keepsTried 8 = .ok (.aload_n 0, 1) := by decide +kernel
theorem dX11_keepsTried_9 : decode cX11_keepsTried 9 = .ok (.getfield 93, 3) := by decide +kernel
theorem dX11_keepsTried_12 : decode cX11_keepsTried 12 = .ok (.invokevirtual 272, 3) := by decide +kernel
theorem dX11_keepsTried_15 : decode cX11_keepsTried 15 = .ok (.ifCond .gt 5, 3) := by decide +kernel
theorem dX11_keepsTried_18 : decode cX11_keepsTried 18 = .ok (.iconst 0, 1) := by decide +kernel
theorem dX11_keepsTried_19 : decode cX11_keepsTried 19 = .ok (.ireturn, 1) := by decide +kernel
theorem dX11_keepsTried_20 : decode cX11_keepsTried 20 = .ok (.aload_n 0, 1) := by decide +kernel
theorem dX11_keepsTried_21 : decode cX11_keepsTried 21 = .ok (.getfield 93, 3) := by decide +kernel
theorem dX11_keepsTried_24 : decode cX11_keepsTried 24 = .ok (.astore_n 1, 1) := by decide +kernel
theorem dX11_keepsTried_25 : decode cX11_keepsTried 25 = .ok (.aload_n 0, 1) := by decide +kernel
theorem dX11_keepsTried_26 : decode cX11_keepsTried 26 = .ok (.aload_n 0, 1) := by decide +kernel
theorem dX11_keepsTried_27 : decode cX11_keepsTried 27 = .ok (.getfield 97, 3) := by decide +kernel
theorem dX11_keepsTried_30 : decode cX11_keepsTried 30 = .ok (.putfield 93, 3) := by decide +kernel
theorem dX11_keepsTried_33 : decode cX11_keepsTried 33 = .ok (.aload_n 0, 1) := by decide +kernel
theorem dX11_keepsTried_34 : decode cX11_keepsTried 34 = .ok (.aload_n 1, 1) := by decide +kernel
theorem dX11_keepsTried_35 : decode cX11_keepsTried 35 = .ok (.putfield 97, 3) := by decide +kernel
theorem dX11_keepsTried_38 : decode cX11_keepsTried 38 = .ok (.iconst 1, 1) := by decide +kernel
theorem dX11_keepsTried_39 : decode cX11_keepsTried 39 = .ok (.ireturn, 1) := by decide +kernel
theorem dX11_best_0 : decode cX11_best 0 = .ok (.aload_n 0, 1) := by decide +kernel
theorem dX11_best_1 : decode cX11_best 1 = .ok (.invokevirtual 165, 3) := by decide +kernel
theorem dX11_best_4 : decode cX11_best 4 = .ok (.ifCond .eq 11, 3) := by decide +kernel
theorem dX11_best_7 : decode cX11_best 7 = .ok (.aload_n 0, 1) := by decide +kernel
theorem dX11_best_8 : decode cX11_best 8 = .ok (.iload_n 1, 1) := by decide +kernel
theorem dX11_best_9 : decode cX11_best 9 = .ok (.invokevirtual 265, 3) := by decide +kernel
theorem dX11_best_12 : decode cX11_best 12 = .ok (.ifCond .ne 5, 3) := by decide +kernel
theorem dX11_best_15 : decode cX11_best 15 = .ok (.iconst (-1), 1) := by decide +kernel
theorem dX11_best_16 : decode cX11_best 16 = .ok (.ireturn, 1) := by decide +kernel
theorem dX11_best_17 : decode cX11_best 17 = .ok (.iconst 0, 1) := by decide +kernel
theorem dX11_best_18 : decode cX11_best 18 = .ok (.istore_n 2, 1) := by decide +kernel
theorem dX11_best_19 : decode cX11_best 19 = .ok (.aload_n 0, 1) := by decide +kernel
theorem dX11_best_20 : decode cX11_best 20 = .ok (.aload_n 0, 1) := by decide +kernel
theorem dX11_best_21 : decode cX11_best 21 = .ok (.getfield 93, 3) := by decide +kernel
theorem dX11_best_24 : decode cX11_best 24 = .ok (.iconst 0, 1) := by decide +kernel
theorem dX11_best_25 : decode cX11_best 25 = .ok (.iload_n 1, 1) := by decide +kernel
theorem dX11_best_26 : decode cX11_best 26 = .ok (.invokevirtual 268, 3) := by decide +kernel
theorem dX11_best_29 : decode cX11_best 29 = .ok (.iconst 1, 1) := by decide +kernel
theorem dX11_best_30 : decode cX11_best 30 = .ok (.istore_n 3, 1) := by decide +kernel
theorem dX11_best_31 : decode cX11_best 31 = .ok (.iload_n 3, 1) := by decide +kernel
theorem dX11_best_32 : decode cX11_best 32 = .ok (.bipush 7, 2) := by decide +kernel
theorem dX11_best_34 : decode cX11_best 34 = .ok (.if_icmp .ge 28, 3) := by decide +kernel
theorem dX11_best_37 : decode cX11_best 37 = .ok (.aload_n 0, 1) := by decide +kernel
theorem dX11_best_38 : decode cX11_best 38 = .ok (.aload_n 0, 1) := by decide +kernel
theorem dX11_best_39 : decode cX11_best 39 = .ok (.getfield 97, 3) := by decide +kernel
theorem dX11_best_42 : decode cX11_best 42 = .ok (.iload_n 3, 1) := by decide +kernel
theorem dX11_best_43 : decode cX11_best 43 = .ok (.iload_n 1, 1) := by decide +kernel
theorem dX11_best_44 : decode cX11_best 44 = .ok (.invokevirtual 268, 3) := by decide +kernel
theorem dX11_best_47 : decode cX11_best 47 = .ok (.aload_n 0, 1) := by decide +kernel
theorem dX11_best_48 : decode cX11_best 48 = .ok (.invokevirtual 276, 3) := by decide +kernel
theorem dX11_best_51 : decode cX11_best 51 = .ok (.ifCond .eq 5, 3) := by decide +kernel
theorem dX11_best_54 : decode cX11_best 54 = .ok (.iload_n 3, 1) := by decide +kernel
theorem dX11_best_55 : decode cX11_best 55 = .ok (.istore_n 2, 1) := by decide +kernel
theorem dX11_best_56 : decode cX11_best 56 = .ok (.iinc 3 1, 3) := by decide +kernel
theorem dX11_best_59 : decode cX11_best 59 = .ok (.goto (-28), 3) := by decide +kernel
theorem dX11_best_62 : decode cX11_best 62 = .ok (.iload_n 2, 1) := by decide +kernel
theorem dX11_best_63 : decode cX11_best 63 = .ok (.ireturn, 1) := by decide +kernel
theorem dX11_gatherOdds_0 : decode cX11_gatherOdds 0 = .ok (.aload_n 1, 1) := by decide +kernel
theorem dX11_gatherOdds_1 : decode cX11_gatherOdds 1 = .ok (.iconst 0, 1) := by decide +kernel
theorem dX11_gatherOdds_2 : decode cX11_gatherOdds 2 = .ok (.putfield 371, 3) := by decide +kernel
theorem dX11_gatherOdds_5 : decode cX11_gatherOdds 5 = .ok (.iconst 0, 1) := by decide +kernel
theorem dX11_gatherOdds_6 : decode cX11_gatherOdds 6 = .ok (.istore 6, 2) := by decide +kernel
theorem dX11_gatherOdds_8 : decode cX11_gatherOdds 8 = .ok (.iload 6, 2) := by decide +kernel
theorem dX11_gatherOdds_10 : decode cX11_gatherOdds 10 = .ok (.aload_n 0, 1) := by decide +kernel
theorem dX11_gatherOdds_11 : decode cX11_gatherOdds 11 = .ok (.getfield 24, 3) := by decide +kernel
theorem dX11_gatherOdds_14 : decode cX11_gatherOdds 14 = .ok (.getfield 162, 3) := by decide +kernel
theorem dX11_gatherOdds_17 : decode cX11_gatherOdds 17 = .ok (.if_icmp .ge 109, 3) := by decide +kernel
theorem dX11_gatherOdds_20 : decode cX11_gatherOdds 20 = .ok (.aload_n 0, 1) := by decide +kernel
theorem dX11_gatherOdds_21 : decode cX11_gatherOdds 21 = .ok (.getfield 24, 3) := by decide +kernel
theorem dX11_gatherOdds_24 : decode cX11_gatherOdds 24 = .ok (.getfield 243, 3) := by decide +kernel
theorem dX11_gatherOdds_27 : decode cX11_gatherOdds 27 = .ok (.iload 6, 2) := by decide +kernel
theorem dX11_gatherOdds_29 : decode cX11_gatherOdds 29 = .ok (.iaload, 1) := by decide +kernel
theorem dX11_gatherOdds_30 : decode cX11_gatherOdds 30 = .ok (.bipush 100, 2) := by decide +kernel
theorem dX11_gatherOdds_32 : decode cX11_gatherOdds 32 = .ok (.idiv, 1) := by decide +kernel
theorem dX11_gatherOdds_33 : decode cX11_gatherOdds 33 = .ok (.iload_n 2, 1) := by decide +kernel
theorem dX11_gatherOdds_34 : decode cX11_gatherOdds 34 = .ok (.if_icmp .ne 86, 3) := by decide +kernel
theorem dX11_gatherOdds_37 : decode cX11_gatherOdds 37 = .ok (.aload_n 0, 1) := by decide +kernel
theorem dX11_gatherOdds_38 : decode cX11_gatherOdds 38 = .ok (.aload_n 0, 1) := by decide +kernel
theorem dX11_gatherOdds_39 : decode cX11_gatherOdds 39 = .ok (.getfield 24, 3) := by decide +kernel
theorem dX11_gatherOdds_42 : decode cX11_gatherOdds 42 = .ok (.getfield 243, 3) := by decide +kernel
theorem dX11_gatherOdds_45 : decode cX11_gatherOdds 45 = .ok (.iload 6, 2) := by decide +kernel
theorem dX11_gatherOdds_47 : decode cX11_gatherOdds 47 = .ok (.iaload, 1) := by decide +kernel
theorem dX11_gatherOdds_48 : decode cX11_gatherOdds 48 = .ok (.aload_n 0, 1) := by decide +kernel
theorem dX11_gatherOdds_49 : decode cX11_gatherOdds 49 = .ok (.getfield 24, 3) := by decide +kernel
theorem dX11_gatherOdds_52 : decode cX11_gatherOdds 52 = .ok (.getfield 246, 3) := by decide +kernel
theorem dX11_gatherOdds_55 : decode cX11_gatherOdds 55 = .ok (.iload 6, 2) := by decide +kernel
theorem dX11_gatherOdds_57 : decode cX11_gatherOdds 57 = .ok (.iaload, 1) := by decide +kernel
theorem dX11_gatherOdds_58 : decode cX11_gatherOdds 58 = .ok (.iload_n 3, 1) := by decide +kernel
theorem dX11_gatherOdds_59 : decode cX11_gatherOdds 59 = .ok (.iload 4, 2) := by decide +kernel
theorem dX11_gatherOdds_61 : decode cX11_gatherOdds 61 = .ok (.invokevirtual 341, 3) := by decide +kernel
theorem dX11_gatherOdds_64 : decode cX11_gatherOdds 64 = .ok (.aload_n 0, 1) := by decide +kernel
theorem dX11_gatherOdds_65 : decode cX11_gatherOdds 65 = .ok (.getfield 75, 3) := by decide +kernel
theorem dX11_gatherOdds_68 : decode cX11_gatherOdds 68 = .ok (.iload 5, 2) := by decide +kernel
theorem dX11_gatherOdds_70 : decode cX11_gatherOdds 70 = .ok (.aload_n 0, 1) := by decide +kernel
theorem dX11_gatherOdds_71 : decode cX11_gatherOdds 71 = .ok (.getfield 24, 3) := by decide +kernel
theorem dX11_gatherOdds_74 : decode cX11_gatherOdds 74 = .ok (.getfield 249, 3) := by decide +kernel
theorem dX11_gatherOdds_77 : decode cX11_gatherOdds 77 = .ok (.iload 6, 2) := by decide +kernel
theorem dX11_gatherOdds_79 : decode cX11_gatherOdds 79 = .ok (.iaload, 1) := by decide +kernel
theorem dX11_gatherOdds_80 : decode cX11_gatherOdds 80 = .ok (.invokevirtual 306, 3) := by decide +kernel
theorem dX11_gatherOdds_83 : decode cX11_gatherOdds 83 = .ok (.aload_n 0, 1) := by decide +kernel
theorem dX11_gatherOdds_84 : decode cX11_gatherOdds 84 = .ok (.getfield 75, 3) := by decide +kernel
theorem dX11_gatherOdds_87 : decode cX11_gatherOdds 87 = .ok (.iconst 4, 1) := by decide +kernel
theorem dX11_gatherOdds_88 : decode cX11_gatherOdds 88 = .ok (.invokevirtual 294, 3) := by decide +kernel
theorem dX11_gatherOdds_91 : decode cX11_gatherOdds 91 = .ok (.aload_n 1, 1) := by decide +kernel
theorem dX11_gatherOdds_92 : decode cX11_gatherOdds 92 = .ok (.aload_n 0, 1) := by decide +kernel
theorem dX11_gatherOdds_93 : decode cX11_gatherOdds 93 = .ok (.getfield 75, 3) := by decide +kernel
theorem dX11_gatherOdds_96 : decode cX11_gatherOdds 96 = .ok (.getfield 208, 3) := by decide +kernel
theorem dX11_gatherOdds_99 : decode cX11_gatherOdds 99 = .ok (.aload_n 0, 1) := by decide +kernel
theorem dX11_gatherOdds_100 : decode cX11_gatherOdds 100 = .ok (.getfield 24, 3) := by decide +kernel
theorem dX11_gatherOdds_103 : decode cX11_gatherOdds 103 = .ok (.getfield 252, 3) := by decide +kernel
theorem dX11_gatherOdds_106 : decode cX11_gatherOdds 106 = .ok (.iload 6, 2) := by decide +kernel
theorem dX11_gatherOdds_108 : decode cX11_gatherOdds 108 = .ok (.iaload, 1) := by decide +kernel
theorem dX11_gatherOdds_109 : decode cX11_gatherOdds 109 = .ok (.laload, 1) := by decide +kernel
theorem dX11_gatherOdds_110 : decode cX11_gatherOdds 110 = .ok (.aload_n 0, 1) := by decide +kernel
theorem dX11_gatherOdds_111 : decode cX11_gatherOdds 111 = .ok (.getfield 75, 3) := by decide +kernel
theorem dX11_gatherOdds_114 : decode cX11_gatherOdds 114 = .ok (.getfield 205, 3) := by decide +kernel
theorem dX11_gatherOdds_117 : decode cX11_gatherOdds 117 = .ok (.invokevirtual 374, 3) := by decide +kernel
theorem dX11_gatherOdds_120 : decode cX11_gatherOdds 120 = .ok (.iinc 6 1, 3) := by decide +kernel
theorem dX11_gatherOdds_123 : decode cX11_gatherOdds 123 = .ok (.goto (-115), 3) := by decide +kernel
theorem dX11_gatherOdds_126 : decode cX11_gatherOdds 126 = .ok (.return_, 1) := by decide +kernel
theorem dX11_trySpans_0 : decode cX11_trySpans 0 = .ok (.aload_n 0, 1) := by decide +kernel
theorem dX11_trySpans_1 : decode cX11_trySpans 1 = .ok (.aload_n 0, 1) := by decide +kernel
theorem dX11_trySpans_2 : decode cX11_trySpans 2 = .ok (.getfield 97, 3) := by decide +kernel
theorem dX11_trySpans_5 : decode cX11_trySpans 5 = .ok (.iload_n 1, 1) := by decide +kernel
theorem dX11_trySpans_6 : decode cX11_trySpans 6 = .ok (.iload_n 2, 1) := by decide +kernel
theorem dX11_trySpans_7 : decode cX11_trySpans 7 = .ok (.iload_n 3, 1) := by decide +kernel
theorem dX11_trySpans_8 : decode cX11_trySpans 8 = .ok (.aload_n 0, 1) := by decide +kernel
theorem dX11_trySpans_9 : decode cX11_trySpans 9 = .ok (.getfield 24, 3) := by decide +kernel
theorem dX11_trySpans_12 : decode cX11_trySpans 12 = .ok (.getfield 192, 3) := by decide +kernel
theorem dX11_trySpans_15 : decode cX11_trySpans 15 = .ok (.iload_n 1, 1) := by decide +kernel
theorem dX11_trySpans_16 : decode cX11_trySpans 16 = .ok (.iaload, 1) := by decide +kernel
theorem dX11_trySpans_17 : decode cX11_trySpans 17 = .ok (.invokevirtual 377, 3) := by decide +kernel
theorem dX11_trySpans_20 : decode cX11_trySpans 20 = .ok (.aload_n 0, 1) := by decide +kernel
theorem dX11_trySpans_21 : decode cX11_trySpans 21 = .ok (.invokevirtual 276, 3) := by decide +kernel
theorem dX11_trySpans_24 : decode cX11_trySpans 24 = .ok (.ifCond .eq 13, 3) := by decide +kernel
theorem dX11_trySpans_27 : decode cX11_trySpans 27 = .ok (.aload_n 0, 1) := by decide +kernel
theorem dX11_trySpans_28 : decode cX11_trySpans 28 = .ok (.iload_n 2, 1) := by decide +kernel
theorem dX11_trySpans_29 : decode cX11_trySpans 29 = .ok (.putfield 100, 3) := by decide +kernel
theorem dX11_trySpans_32 : decode cX11_trySpans 32 = .ok (.aload_n 0, 1) := by decide +kernel
theorem dX11_trySpans_33 : decode cX11_trySpans 33 = .ok (.iload_n 3, 1) := by decide +kernel
theorem dX11_trySpans_34 : decode cX11_trySpans 34 = .ok (.putfield 104, 3) := by decide +kernel
theorem dX11_trySpans_37 : decode cX11_trySpans 37 = .ok (.return_, 1) := by decide +kernel
theorem dX11_findOwnSpans_0 : decode cX11_findOwnSpans 0 = .ok (.aload_n 0, 1) := by decide +kernel
theorem dX11_findOwnSpans_1 : decode cX11_findOwnSpans 1 = .ok (.iconst 0, 1) := by decide +kernel
theorem dX11_findOwnSpans_2 : decode cX11_findOwnSpans 2 = .ok (.putfield 100, 3) := by decide +kernel
theorem dX11_findOwnSpans_5 : decode cX11_findOwnSpans 5 = .ok (.aload_n 0, 1) := by decide +kernel
theorem dX11_findOwnSpans_6 : decode cX11_findOwnSpans 6 = .ok (.iconst 0, 1) := by decide +kernel
theorem dX11_findOwnSpans_7 : decode cX11_findOwnSpans 7 = .ok (.putfield 104, 3) := by decide +kernel
theorem dX11_findOwnSpans_10 : decode cX11_findOwnSpans 10 = .ok (.aload_n 0, 1) := by decide +kernel
theorem dX11_findOwnSpans_11 : decode cX11_findOwnSpans 11 = .ok (.aload_n 0, 1) := by decide +kernel
theorem dX11_findOwnSpans_12 : decode cX11_findOwnSpans 12 = .ok (.getfield 93, 3) := by decide +kernel
theorem dX11_findOwnSpans_15 : decode cX11_findOwnSpans 15 = .ok (.iload_n 1, 1) := by decide +kernel
theorem dX11_findOwnSpans_16 : decode cX11_findOwnSpans 16 = .ok (.iconst 0, 1) := by decide +kernel
theorem dX11_findOwnSpans_17 : decode cX11_findOwnSpans 17 = .ok (.iconst 0, 1) := by decide +kernel
theorem dX11_findOwnSpans_18 : decode cX11_findOwnSpans 18 = .ok (.aload_n 0, 1) := by decide +kernel
theorem dX11_findOwnSpans_19 : decode cX11_findOwnSpans 19 = .ok (.getfield 24, 3) := by decide +kernel
theorem dX11_findOwnSpans_22 : decode cX11_findOwnSpans 22 = .ok (.getfield 192, 3) := by decide +kernel
theorem dX11_findOwnSpans_25 : decode cX11_findOwnSpans 25 = .ok (.iload_n 1, 1) := by decide +kernel
theorem dX11_findOwnSpans_26 : decode cX11_findOwnSpans 26 = .ok (.iaload, 1) := by decide +kernel
theorem dX11_findOwnSpans_27 : decode cX11_findOwnSpans 27 = .ok (.invokevirtual 377, 3) := by decide +kernel
theorem dX11_findOwnSpans_30 : decode cX11_findOwnSpans 30 = .ok (.iconst 1, 1) := by decide +kernel
theorem dX11_findOwnSpans_31 : decode cX11_findOwnSpans 31 = .ok (.istore_n 2, 1) := by decide +kernel
theorem dX11_findOwnSpans_32 : decode cX11_findOwnSpans 32 = .ok (.iload_n 2, 1) := by decide +kernel
theorem dX11_findOwnSpans_33 : decode cX11_findOwnSpans 33 = .ok (.bipush 24, 2) := by decide +kernel
theorem dX11_findOwnSpans_35 : decode cX11_findOwnSpans 35 = .ok (.if_icmp .gt 73, 3) := by decide +kernel
theorem dX11_findOwnSpans_38 : decode cX11_findOwnSpans 38 = .ok (.bipush (-12), 2) := by decide +kernel
theorem dX11_findOwnSpans_40 : decode cX11_findOwnSpans 40 = .ok (.istore_n 3, 1) := by decide +kernel
theorem dX11_findOwnSpans_41 : decode cX11_findOwnSpans 41 = .ok (.iload_n 3, 1) := by decide +kernel
theorem dX11_findOwnSpans_42 : decode cX11_findOwnSpans 42 = .ok (.bipush 12, 2) := by decide +kernel
theorem dX11_findOwnSpans_44 : decode cX11_findOwnSpans 44 = .ok (.if_icmp .gt 58, 3) := by decide +kernel
theorem dX11_findOwnSpans_47 : decode cX11_findOwnSpans 47 = .ok (.iload_n 2, 1) := by decide +kernel
theorem dX11_findOwnSpans_48 : decode cX11_findOwnSpans 48 = .ok (.iload_n 3, 1) := by decide +kernel
theorem dX11_findOwnSpans_49 : decode cX11_findOwnSpans 49 = .ok (.invokestatic 366, 3) := by decide +kernel
theorem dX11_findOwnSpans_52 : decode cX11_findOwnSpans 52 = .ok (.isub, 1) := by decide +kernel
theorem dX11_findOwnSpans_53 : decode cX11_findOwnSpans 53 = .ok (.istore 4, 2) := by decide +kernel
theorem dX11_findOwnSpans_55 : decode cX11_findOwnSpans 55 = .ok (.iload 4, 2) := by decide +kernel
theorem dX11_findOwnSpans_57 : decode cX11_findOwnSpans 57 = .ok (.ifCond .lt 19, 3) := by decide +kernel
theorem dX11_findOwnSpans_60 : decode cX11_findOwnSpans 60 = .ok (.iload 4, 2) := by decide +kernel
theorem dX11_findOwnSpans_62 : decode cX11_findOwnSpans 62 = .ok (.bipush 12, 2) := by decide +kernel
theorem dX11_findOwnSpans_64 : decode cX11_findOwnSpans 64 = .ok (.if_icmp .gt 12, 3) := by decide +kernel
theorem dX11_findOwnSpans_67 : decode cX11_findOwnSpans 67 = .ok (.aload_n 0, 1) := by decide +kernel
theorem dX11_findOwnSpans_68 : decode cX11_findOwnSpans 68 = .ok (.iload_n 1, 1) := by decide +kernel
theorem dX11_findOwnSpans_69 : decode cX11_findOwnSpans 69 = .ok (.iload_n 3, 1) := by decide +kernel
theorem dX11_findOwnSpans_70 : decode cX11_findOwnSpans 70 = .ok (.iload 4, 2) := by decide +kernel
theorem dX11_findOwnSpans_72 : decode cX11_findOwnSpans 72 = .ok (.ineg, 1) := by decide +kernel
theorem dX11_findOwnSpans_73 : decode cX11_findOwnSpans 73 = .ok (.invokevirtual 381, 3) := by decide +kernel
theorem dX11_findOwnSpans_76 : decode cX11_findOwnSpans 76 = .ok (.iload 4, 2) := by decide +kernel
theorem dX11_findOwnSpans_78 : decode cX11_findOwnSpans 78 = .ok (.ifCond .le 18, 3) := by decide +kernel
theorem dX11_findOwnSpans_81 : decode cX11_findOwnSpans 81 = .ok (.iload 4, 2) := by decide +kernel
theorem dX11_findOwnSpans_83 : decode cX11_findOwnSpans 83 = .ok (.bipush 12, 2) := by decide +kernel
theorem dX11_findOwnSpans_85 : decode cX11_findOwnSpans 85 = .ok (.if_icmp .gt 11, 3) := by decide +kernel
theorem dX11_findOwnSpans_88 : decode cX11_findOwnSpans 88 = .ok (.aload_n 0, 1) := by decide +kernel
theorem dX11_findOwnSpans_89 : decode cX11_findOwnSpans 89 = .ok (.iload_n 1, 1) := by decide +kernel
theorem dX11_findOwnSpans_90 : decode cX11_findOwnSpans 90 = .ok (.iload_n 3, 1) := by decide +kernel
theorem dX11_findOwnSpans_91 : decode cX11_findOwnSpans 91 = .ok (.iload 4, 2) := by decide +kernel
theorem dX11_findOwnSpans_93 : decode cX11_findOwnSpans 93 = .ok (.invokevirtual 381, 3) := by decide +kernel
theorem dX11_findOwnSpans_96 : decode cX11_findOwnSpans 96 = .ok (.iinc 3 1, 3) := by decide +kernel
theorem dX11_findOwnSpans_99 : decode cX11_findOwnSpans 99 = .ok (.goto (-58), 3) := by decide +kernel
theorem dX11_findOwnSpans_102 : decode cX11_findOwnSpans 102 = .ok (.iinc 2 1, 3) := by decide +kernel
theorem dX11_findOwnSpans_105 : decode cX11_findOwnSpans 105 = .ok (.goto (-73), 3) := by decide +kernel
theorem dX11_findOwnSpans_108 : decode cX11_findOwnSpans 108 = .ok (.return_, 1) := by decide +kernel
theorem dX11_findOwnOdds_0 : decode cX11_findOwnOdds 0 = .ok (.aload_n 0, 1) := by decide +kernel
theorem dX11_findOwnOdds_1 : decode cX11_findOwnOdds 1 = .ok (.getfield 24, 3) := by decide +kernel
theorem dX11_findOwnOdds_4 : decode cX11_findOwnOdds 4 = .ok (.getfield 186, 3) := by decide +kernel
theorem dX11_findOwnOdds_7 : decode cX11_findOwnOdds 7 = .ok (.iload_n 1, 1) := by decide +kernel
theorem dX11_findOwnOdds_8 : decode cX11_findOwnOdds 8 = .ok (.iaload, 1) := by decide +kernel
theorem dX11_findOwnOdds_9 : decode cX11_findOwnOdds 9 = .ok (.istore_n 2, 1) := by decide +kernel
theorem dX11_findOwnOdds_10 : decode cX11_findOwnOdds 10 = .ok (.aload_n 0, 1) := by decide +kernel
theorem dX11_findOwnOdds_11 : decode cX11_findOwnOdds 11 = .ok (.getfield 24, 3) := by decide +kernel
theorem dX11_findOwnOdds_14 : decode cX11_findOwnOdds 14 = .ok (.getfield 189, 3) := by decide +kernel
theorem dX11_findOwnOdds_17 : decode cX11_findOwnOdds 17 = .ok (.iload_n 1, 1) := by decide +kernel
theorem dX11_findOwnOdds_18 : decode cX11_findOwnOdds 18 = .ok (.iaload, 1) := by decide +kernel
theorem dX11_findOwnOdds_19 : decode cX11_findOwnOdds 19 = .ok (.istore_n 3, 1) := by decide +kernel
theorem dX11_findOwnOdds_20 : decode cX11_findOwnOdds 20 = .ok (.iconst 0, 1) := by decide +kernel
theorem dX11_findOwnOdds_21 : decode cX11_findOwnOdds 21 = .ok (.istore 4, 2) := by decide +kernel
theorem dX11_findOwnOdds_23 : decode cX11_findOwnOdds 23 = .ok (.aload_n 0, 1) := by decide +kernel
theorem dX11_findOwnOdds_24 : decode cX11_findOwnOdds 24 = .ok (.aload_n 0, 1) := by decide +kernel
theorem dX11_findOwnOdds_25 : decode cX11_findOwnOdds 25 = .ok (.getfield 93, 3) := by decide +kernel
theorem dX11_findOwnOdds_28 : decode cX11_findOwnOdds 28 = .ok (.iload_n 1, 1) := by decide +kernel
theorem dX11_findOwnOdds_29 : decode cX11_findOwnOdds 29 = .ok (.iload_n 2, 1) := by decide +kernel
theorem dX11_findOwnOdds_30 : decode cX11_findOwnOdds 30 = .ok (.iload_n 3, 1) := by decide +kernel
theorem dX11_findOwnOdds_31 : decode cX11_findOwnOdds 31 = .ok (.iconst 0, 1) := by decide +kernel
theorem dX11_findOwnOdds_32 : decode cX11_findOwnOdds 32 = .ok (.invokevirtual 377, 3) := by decide +kernel
theorem dX11_findOwnOdds_35 : decode cX11_findOwnOdds 35 = .ok (.iconst 1, 1) := by decide +kernel
theorem dX11_findOwnOdds_36 : decode cX11_findOwnOdds 36 = .ok (.istore 5, 2) := by decide +kernel
theorem dX11_findOwnOdds_38 : decode cX11_findOwnOdds 38 = .ok (.iload 5, 2) := by decide +kernel
theorem dX11_findOwnOdds_40 : decode cX11_findOwnOdds 40 = .ok (.bipush 16, 2) := by decide +kernel
theorem dX11_findOwnOdds_42 : decode cX11_findOwnOdds 42 = .ok (.if_icmp .gt 33, 3) := by decide +kernel
theorem dX11_findOwnOdds_45 : decode cX11_findOwnOdds 45 = .ok (.aload_n 0, 1) := by decide +kernel
theorem dX11_findOwnOdds_46 : decode cX11_findOwnOdds 46 = .ok (.aload_n 0, 1) := by decide +kernel
theorem dX11_findOwnOdds_47 : decode cX11_findOwnOdds 47 = .ok (.getfield 97, 3) := by decide +kernel
theorem dX11_findOwnOdds_50 : decode cX11_findOwnOdds 50 = .ok (.iload_n 1, 1) := by decide +kernel
theorem dX11_findOwnOdds_51 : decode cX11_findOwnOdds 51 = .ok (.iload_n 2, 1) := by decide +kernel
theorem dX11_findOwnOdds_52 : decode cX11_findOwnOdds 52 = .ok (.iload_n 3, 1) := by decide +kernel
theorem dX11_findOwnOdds_53 : decode cX11_findOwnOdds 53 = .ok (.iload 5, 2) := by decide +kernel
theorem dX11_findOwnOdds_55 : decode cX11_findOwnOdds 55 = .ok (.invokevirtual 377, 3) := by decide +kernel
theorem dX11_findOwnOdds_58 : decode cX11_findOwnOdds 58 = .ok (.aload_n 0, 1) := by decide +kernel
theorem dX11_findOwnOdds_59 : decode cX11_findOwnOdds 59 = .ok (.invokevirtual 276, 3) := by decide +kernel
theorem dX11_findOwnOdds_62 : decode cX11_findOwnOdds 62 = .ok (.ifCond .eq 7, 3) := by decide +kernel
theorem dX11_findOwnOdds_65 : decode cX11_findOwnOdds 65 = .ok (.iload 5, 2) := by decide +kernel
theorem dX11_findOwnOdds_67 : decode cX11_findOwnOdds 67 = .ok (.istore 4, 2) := by decide +kernel
theorem dX11_findOwnOdds_69 : decode cX11_findOwnOdds 69 = .ok (.iinc 5 1, 3) := by decide +kernel
theorem dX11_findOwnOdds_72 : decode cX11_findOwnOdds 72 = .ok (.goto (-34), 3) := by decide +kernel
theorem dX11_findOwnOdds_75 : decode cX11_findOwnOdds 75 = .ok (.iload 4, 2) := by decide +kernel
theorem dX11_findOwnOdds_77 : decode cX11_findOwnOdds 77 = .ok (.ireturn, 1) := by decide +kernel
theorem dX11_own_0 : decode cX11_own 0 = .ok (.aload_n 0, 1) := by decide +kernel
theorem dX11_own_1 : decode cX11_own 1 = .ok (.iload_n 1, 1) := by decide +kernel
theorem dX11_own_2 : decode cX11_own 2 = .ok (.invokevirtual 183, 3) := by decide +kernel
theorem dX11_own_5 : decode cX11_own 5 = .ok (.ifCond .eq 12, 3) := by decide +kernel
theorem dX11_own_8 : decode cX11_own 8 = .ok (.iload_n 2, 1) := by decide +kernel
theorem dX11_own_9 : decode cX11_own 9 = .ok (.ifCond .lt 8, 3) := by decide +kernel
theorem dX11_own_12 : decode cX11_own 12 = .ok (.iload_n 2, 1) := by decide +kernel
theorem dX11_own_13 : decode cX11_own 13 = .ok (.iconst 2, 1) := by decide +kernel
theorem dX11_own_14 : decode cX11_own 14 = .ok (.if_icmp .le 6, 3) := by decide +kernel
theorem dX11_own_17 : decode cX11_own 17 = .ok (.ldc 125, 2) := by decide +kernel
theorem dX11_own_19 : decode cX11_own 19 = .ok (.ireturn, 1) := by decide +kernel
theorem dX11_own_20 : decode cX11_own 20 = .ok (.iload_n 2, 1) := by decide +kernel
theorem dX11_own_21 : decode cX11_own 21 = .ok (.iconst 2, 1) := by decide +kernel
theorem dX11_own_22 : decode cX11_own 22 = .ok (.if_icmp .ne 9, 3) := by decide +kernel
theorem dX11_own_25 : decode cX11_own 25 = .ok (.aload_n 0, 1) := by decide +kernel
theorem dX11_own_26 : decode cX11_own 26 = .ok (.iload_n 1, 1) := by decide +kernel
theorem dX11_own_27 : decode cX11_own 27 = .ok (.invokevirtual 279, 3) := by decide +kernel
theorem dX11_own_30 : decode cX11_own 30 = .ok (.ireturn, 1) := by decide +kernel
theorem dX11_own_31 : decode cX11_own 31 = .ok (.aload_n 0, 1) := by decide +kernel
theorem dX11_own_32 : decode cX11_own 32 = .ok (.iload_n 1, 1) := by decide +kernel
theorem dX11_own_33 : decode cX11_own 33 = .ok (.invokevirtual 282, 3) := by decide +kernel
theorem dX11_own_36 : decode cX11_own 36 = .ok (.iload_n 2, 1) := by decide +kernel
theorem dX11_own_37 : decode cX11_own 37 = .ok (.ifCond .ne 10, 3) := by decide +kernel
theorem dX11_own_40 : decode cX11_own 40 = .ok (.aload_n 0, 1) := by decide +kernel
theorem dX11_own_41 : decode cX11_own 41 = .ok (.getfield 100, 3) := by decide +kernel
theorem dX11_own_44 : decode cX11_own 44 = .ok (.goto 7, 3) := by decide +kernel
theorem dX11_own_47 : decode cX11_own 47 = .ok (.aload_n 0, 1) := by decide +kernel
theorem dX11_own_48 : decode cX11_own 48 = .ok (.getfield 104, 3) := by decide +kernel
theorem dX11_own_51 : decode cX11_own 51 = .ok (.ireturn, 1) := by decide +kernel
theorem dX11_isLandOrAll_0 : decode cX11_isLandOrAll 0 = .ok (.iload_n 0, 1) := by decide +kernel
theorem dX11_isLandOrAll_1 : decode cX11_isLandOrAll 1 = .ok (.iconst (-1), 1) := by decide +kernel
theorem dX11_isLandOrAll_2 : decode cX11_isLandOrAll 2 = .ok (.if_icmp .lt 12, 3) := by decide +kernel
theorem dX11_isLandOrAll_5 : decode cX11_isLandOrAll 5 = .ok (.iload_n 0, 1) := by decide +kernel
theorem dX11_isLandOrAll_6 : decode cX11_isLandOrAll 6 = .ok (.iconst 3, 1) := by decide +kernel
theorem dX11_isLandOrAll_7 : decode cX11_isLandOrAll 7 = .ok (.if_icmp .gt 7, 3) := by decide +kernel
theorem dX11_isLandOrAll_10 : decode cX11_isLandOrAll 10 = .ok (.iconst 1, 1) := by decide +kernel
theorem dX11_isLandOrAll_11 : decode cX11_isLandOrAll 11 = .ok (.goto 4, 3) := by decide +kernel
theorem dX11_isLandOrAll_14 : decode cX11_isLandOrAll 14 = .ok (.iconst 0, 1) := by decide +kernel
theorem dX11_isLandOrAll_15 : decode cX11_isLandOrAll 15 = .ok (.ireturn, 1) := by decide +kernel
theorem dX11_isOfLand_0 : decode cX11_isOfLand 0 = .ok (.iload_n 2, 1) := by decide +kernel
theorem dX11_isOfLand_1 : decode cX11_isOfLand 1 = .ok (.iconst (-1), 1) := by decide +kernel
theorem dX11_isOfLand_2 : decode cX11_isOfLand 2 = .ok (.if_icmp .eq 27, 3) := by decide +kernel
theorem dX11_isOfLand_5 : decode cX11_isOfLand 5 = .ok (.aload_n 0, 1) := by decide +kernel
theorem dX11_isOfLand_6 : decode cX11_isOfLand 6 = .ok (.getfield 24, 3) := by decide +kernel
theorem dX11_isOfLand_9 : decode cX11_isOfLand 9 = .ok (.getfield 194, 3) := by decide +kernel
theorem dX11_isOfLand_12 : decode cX11_isOfLand 12 = .ok (.aload_n 0, 1) := by decide +kernel
theorem dX11_isOfLand_13 : decode cX11_isOfLand 13 = .ok (.getfield 24, 3) := by decide +kernel
theorem dX11_isOfLand_16 : decode cX11_isOfLand 16 = .ok (.getfield 243, 3) := by decide +kernel
theorem dX11_isOfLand_19 : decode cX11_isOfLand 19 = .ok (.iload_n 1, 1) := by decide +kernel
theorem dX11_isOfLand_20 : decode cX11_isOfLand 20 = .ok (.iaload, 1) := by decide +kernel
theorem dX11_isOfLand_21 : decode cX11_isOfLand 21 = .ok (.bipush 100, 2) := by decide +kernel
theorem dX11_isOfLand_23 : decode cX11_isOfLand 23 = .ok (.idiv, 1) := by decide +kernel
theorem dX11_isOfLand_24 : decode cX11_isOfLand 24 = .ok (.iaload, 1) := by decide +kernel
theorem dX11_isOfLand_25 : decode cX11_isOfLand 25 = .ok (.iload_n 2, 1) := by decide +kernel
theorem dX11_isOfLand_26 : decode cX11_isOfLand 26 = .ok (.if_icmp .ne 7, 3) := by decide +kernel
theorem dX11_isOfLand_29 : decode cX11_isOfLand 29 = .ok (.iconst 1, 1) := by decide +kernel
theorem dX11_isOfLand_30 : decode cX11_isOfLand 30 = .ok (.goto 4, 3) := by decide +kernel
theorem dX11_isOfLand_33 : decode cX11_isOfLand 33 = .ok (.iconst 0, 1) := by decide +kernel
theorem dX11_isOfLand_34 : decode cX11_isOfLand 34 = .ok (.ireturn, 1) := by decide +kernel
theorem dX11_countOfLand_0 : decode cX11_countOfLand 0 = .ok (.iconst 0, 1) := by decide +kernel
theorem dX11_countOfLand_1 : decode cX11_countOfLand 1 = .ok (.istore_n 2, 1) := by decide +kernel
theorem dX11_countOfLand_2 : decode cX11_countOfLand 2 = .ok (.iconst 0, 1) := by decide +kernel
theorem dX11_countOfLand_3 : decode cX11_countOfLand 3 = .ok (.istore_n 3, 1) := by decide +kernel
theorem dX11_countOfLand_4 : decode cX11_countOfLand 4 = .ok (.iload_n 3, 1) := by decide +kernel
theorem dX11_countOfLand_5 : decode cX11_countOfLand 5 = .ok (.aload_n 0, 1) := by decide +kernel
theorem dX11_countOfLand_6 : decode cX11_countOfLand 6 = .ok (.getfield 24, 3) := by decide +kernel
theorem dX11_countOfLand_9 : decode cX11_countOfLand 9 = .ok (.getfield 162, 3) := by decide +kernel
theorem dX11_countOfLand_12 : decode cX11_countOfLand 12 = .ok (.if_icmp .ge 21, 3) := by decide +kernel
theorem dX11_countOfLand_15 : decode cX11_countOfLand 15 = .ok (.aload_n 0, 1) := by decide +kernel
theorem dX11_countOfLand_16 : decode cX11_countOfLand 16 = .ok (.iload_n 3, 1) := by decide +kernel
theorem dX11_countOfLand_17 : decode cX11_countOfLand 17 = .ok (.iload_n 1, 1) := by decide +kernel
theorem dX11_countOfLand_18 : decode cX11_countOfLand 18 = .ok (.invokevirtual 291, 3) := by decide +kernel
theorem dX11_countOfLand_21 : decode cX11_countOfLand 21 = .ok (.ifCond .eq 6, 3) := by decide +kernel
theorem dX11_countOfLand_24 : decode cX11_countOfLand 24 = .ok (.iinc 2 1, 3) := by decide +kernel
theorem dX11_countOfLand_27 : decode cX11_countOfLand 27 = .ok (.iinc 3 1, 3) := by decide +kernel
theorem dX11_countOfLand_30 : decode cX11_countOfLand 30 = .ok (.goto (-26), 3) := by decide +kernel
theorem dX11_countOfLand_33 : decode cX11_countOfLand 33 = .ok (.iload_n 2, 1) := by decide +kernel
theorem dX11_countOfLand_34 : decode cX11_countOfLand 34 = .ok (.ireturn, 1) := by decide +kernel
theorem dX11_share_0 : decode cX11_share 0 = .ok (.iload_n 1, 1) := by decide +kernel
theorem dX11_share_1 : decode cX11_share 1 = .ok (.invokestatic 285, 3) := by decide +kernel
theorem dX11_share_4 : decode cX11_share 4 = .ok (.ifCond .eq 19, 3) := by decide +kernel
theorem dX11_share_7 : decode cX11_share 7 = .ok (.iload_n 2, 1) := by decide +kernel
theorem dX11_share_8 : decode cX11_share 8 = .ok (.invokestatic 215, 3) := by decide +kernel
theorem dX11_share_11 : decode cX11_share 11 = .ok (.ifCond .ne 8, 3) := by decide +kernel
theorem dX11_share_14 : decode cX11_share 14 = .ok (.iload_n 2, 1) := by decide +kernel
theorem dX11_share_15 : decode cX11_share 15 = .ok (.iconst 4, 1) := by decide +kernel
theorem dX11_share_16 : decode cX11_share 16 = .ok (.if_icmp .ne 7, 3) := by decide +kernel
theorem dX11_share_19 : decode cX11_share 19 = .ok (.iconst 1, 1) := by decide +kernel
theorem dX11_share_20 : decode cX11_share 20 = .ok (.goto 4, 3) := by decide +kernel
theorem dX11_share_23 : decode cX11_share 23 = .ok (.iconst 0, 1) := by decide +kernel
theorem dX11_share_24 : decode cX11_share 24 = .ok (.istore_n 3, 1) := by decide +kernel
theorem dX11_share_25 : decode cX11_share 25 = .ok (.iload_n 3, 1) := by decide +kernel
theorem dX11_share_26 : decode cX11_share 26 = .ok (.ifCond .eq 11, 3) := by decide +kernel
theorem dX11_share_29 : decode cX11_share 29 = .ok (.aload_n 0, 1) := by decide +kernel
theorem dX11_share_30 : decode cX11_share 30 = .ok (.iload_n 1, 1) := by decide +kernel
theorem dX11_share_31 : decode cX11_share 31 = .ok (.invokevirtual 288, 3) := by decide +kernel
theorem dX11_share_34 : decode cX11_share 34 = .ok (.goto 4, 3) := by decide +kernel
theorem dX11_share_37 : decode cX11_share 37 = .ok (.iconst 0, 1) := by decide +kernel
theorem dX11_share_38 : decode cX11_share 38 = .ok (.istore 4, 2) := by decide +kernel
theorem dX11_share_40 : decode cX11_share 40 = .ok (.iload 4, 2) := by decide +kernel
theorem dX11_share_42 : decode cX11_share 42 = .ok (.ifCond .gt 5, 3) := by decide +kernel
theorem dX11_share_45 : decode cX11_share 45 = .ok (.iconst (-1), 1) := by decide +kernel
theorem dX11_share_46 : decode cX11_share 46 = .ok (.ireturn, 1) := by decide +kernel
theorem dX11_share_47 : decode cX11_share 47 = .ok (.iconst 0, 1) := by decide +kernel
theorem dX11_share_48 : decode cX11_share 48 = .ok (.istore 5, 2) := by decide +kernel
theorem dX11_share_50 : decode cX11_share 50 = .ok (.iconst 0, 1) := by decide +kernel
theorem dX11_share_51 : decode cX11_share 51 = .ok (.istore 6, 2) := by decide +kernel
theorem dX11_share_53 : decode cX11_share 53 = .ok (.iload 6, 2) := by decide +kernel
theorem dX11_share_55 : decode cX11_share 55 = .ok (.aload_n 0, 1) := by decide +kernel
theorem dX11_share_56 : decode cX11_share 56 = .ok (.getfield 24, 3) := by decide +kernel
theorem dX11_share_59 : decode cX11_share 59 = .ok (.getfield 162, 3) := by decide +kernel
theorem dX11_share_62 : decode cX11_share 62 = .ok (.if_icmp .ge 65, 3) := by decide +kernel
theorem dX11_share_65 : decode cX11_share 65 = .ok (.iload_n 2, 1) := by decide +kernel
theorem dX11_share_66 : decode cX11_share 66 = .ok (.iconst 4, 1) := by decide +kernel
theorem dX11_share_67 : decode cX11_share 67 = .ok (.if_icmp .ne 16, 3) := by decide +kernel
theorem dX11_share_70 : decode cX11_share 70 = .ok (.aload_n 0, 1) := by decide +kernel
theorem dX11_share_71 : decode cX11_share 71 = .ok (.getfield 24, 3) := by decide +kernel
theorem dX11_share_74 : decode cX11_share 74 = .ok (.getfield 255, 3) := by decide +kernel
theorem dX11_share_77 : decode cX11_share 77 = .ok (.iload 6, 2) := by decide +kernel
theorem dX11_share_79 : decode cX11_share 79 = .ok (.baload, 1) := by decide +kernel
theorem dX11_share_80 : decode cX11_share 80 = .ok (.goto 21, 3) := by decide +kernel
theorem dX11_share_83 : decode cX11_share 83 = .ok (.aload_n 0, 1) := by decide +kernel
theorem dX11_share_84 : decode cX11_share 84 = .ok (.getfield 24, 3) := by decide +kernel
theorem dX11_share_87 : decode cX11_share 87 = .ok (.iload 6, 2) := by decide +kernel
theorem dX11_share_89 : decode cX11_share 89 = .ok (.invokevirtual 259, 3) := by decide +kernel
theorem dX11_share_92 : decode cX11_share 92 = .ok (.iload_n 2, 1) := by decide +kernel
theorem dX11_share_93 : decode cX11_share 93 = .ok (.if_icmp .ne 7, 3) := by decide +kernel
theorem dX11_share_96 : decode cX11_share 96 = .ok (.iconst 1, 1) := by decide +kernel
theorem dX11_share_97 : decode cX11_share 97 = .ok (.goto 4, 3) := by decide +kernel
theorem dX11_share_100 : decode cX11_share 100 = .ok (.iconst 0, 1) := by decide +kernel
theorem dX11_share_101 : decode cX11_share 101 = .ok (.istore 7, 2) := by decide +kernel
theorem dX11_share_103 : decode cX11_share 103 = .ok (.aload_n 0, 1) := by decide +kernel
theorem dX11_share_104 : decode cX11_share 104 = .ok (.iload 6, 2) := by decide +kernel
theorem dX11_share_106 : decode cX11_share 106 = .ok (.iload_n 1, 1) := by decide +kernel
theorem dX11_share_107 : decode cX11_share 107 = .ok (.invokevirtual 291, 3) := by decide +kernel
theorem dX11_share_110 : decode cX11_share 110 = .ok (.ifCond .eq 11, 3) := by decide +kernel
theorem dX11_share_113 : decode cX11_share 113 = .ok (.iload 7, 2) := by decide +kernel
theorem dX11_share_115 : decode cX11_share 115 = .ok (.ifCond .eq 6, 3) := by decide +kernel
theorem dX11_share_118 : decode cX11_share 118 = .ok (.iinc 5 1, 3) := by decide +kernel
theorem dX11_share_121 : decode cX11_share 121 = .ok (.iinc 6 1, 3) := by decide +kernel
theorem dX11_share_124 : decode cX11_share 124 = .ok (.goto (-71), 3) := by decide +kernel
theorem dX11_share_127 : decode cX11_share 127 = .ok (.iload 5, 2) := by decide +kernel
theorem dX11_share_129 : decode cX11_share 129 = .ok (.sipush 1000, 3) := by decide +kernel
theorem dX11_share_132 : decode cX11_share 132 = .ok (.imul, 1) := by decide +kernel
theorem dX11_share_133 : decode cX11_share 133 = .ok (.iload 4, 2) := by decide +kernel
theorem dX11_share_135 : decode cX11_share 135 = .ok (.idiv, 1) := by decide +kernel
theorem dX11_share_136 : decode cX11_share 136 = .ok (.ireturn, 1) := by decide +kernel
theorem dX11_foretold_0 : decode cX11_foretold 0 = .ok (.iload_n 1, 1) := by decide +kernel
theorem dX11_foretold_1 : decode cX11_foretold 1 = .ok (.invokestatic 262, 3) := by decide +kernel
theorem dX11_foretold_4 : decode cX11_foretold 4 = .ok (.ifCond .eq 26, 3) := by decide +kernel
theorem dX11_foretold_7 : decode cX11_foretold 7 = .ok (.iload_n 2, 1) := by decide +kernel
theorem dX11_foretold_8 : decode cX11_foretold 8 = .ok (.invokestatic 285, 3) := by decide +kernel
theorem dX11_foretold_11 : decode cX11_foretold 11 = .ok (.ifCond .eq 19, 3) := by decide +kernel
theorem dX11_foretold_14 : decode cX11_foretold 14 = .ok (.iload_n 3, 1) := by decide +kernel
theorem dX11_foretold_15 : decode cX11_foretold 15 = .ok (.invokestatic 215, 3) := by decide +kernel
theorem dX11_foretold_18 : decode cX11_foretold 18 = .ok (.ifCond .ne 8, 3) := by decide +kernel
theorem dX11_foretold_21 : decode cX11_foretold 21 = .ok (.iload_n 3, 1) := by decide +kernel
theorem dX11_foretold_22 : decode cX11_foretold 22 = .ok (.iconst 4, 1) := by decide +kernel
theorem dX11_foretold_23 : decode cX11_foretold 23 = .ok (.if_icmp .ne 7, 3) := by decide +kernel
theorem dX11_foretold_26 : decode cX11_foretold 26 = .ok (.iconst 1, 1) := by decide +kernel
theorem dX11_foretold_27 : decode cX11_foretold 27 = .ok (.goto 4, 3) := by decide +kernel
theorem dX11_foretold_30 : decode cX11_foretold 30 = .ok (.iconst 0, 1) := by decide +kernel
theorem dX11_foretold_31 : decode cX11_foretold 31 = .ok (.istore 4, 2) := by decide +kernel
theorem dX11_foretold_33 : decode cX11_foretold 33 = .ok (.iload 4, 2) := by decide +kernel
theorem dX11_foretold_35 : decode cX11_foretold 35 = .ok (.ifCond .eq 11, 3) := by decide +kernel
theorem dX11_foretold_38 : decode cX11_foretold 38 = .ok (.aload_n 0, 1) := by decide +kernel
theorem dX11_foretold_39 : decode cX11_foretold 39 = .ok (.iload_n 2, 1) := by decide +kernel
theorem dX11_foretold_40 : decode cX11_foretold 40 = .ok (.invokevirtual 288, 3) := by decide +kernel
theorem dX11_foretold_43 : decode cX11_foretold 43 = .ok (.goto 4, 3) := by decide +kernel
theorem dX11_foretold_46 : decode cX11_foretold 46 = .ok (.iconst 0, 1) := by decide +kernel
theorem dX11_foretold_47 : decode cX11_foretold 47 = .ok (.istore 5, 2) := by decide +kernel
theorem dX11_foretold_49 : decode cX11_foretold 49 = .ok (.iload 5, 2) := by decide +kernel
theorem dX11_foretold_51 : decode cX11_foretold 51 = .ok (.ifCond .gt 5, 3) := by decide +kernel
theorem dX11_foretold_54 : decode cX11_foretold 54 = .ok (.iconst (-1), 1) := by decide +kernel
theorem dX11_foretold_55 : decode cX11_foretold 55 = .ok (.ireturn, 1) := by decide +kernel
theorem dX11_foretold_56 : decode cX11_foretold 56 = .ok (.iconst 0, 1) := by decide +kernel
theorem dX11_foretold_57 : decode cX11_foretold 57 = .ok (.istore 6, 2) := by decide +kernel
theorem dX11_foretold_59 : decode cX11_foretold 59 = .ok (.iconst 0, 1) := by decide +kernel
theorem dX11_foretold_60 : decode cX11_foretold 60 = .ok (.istore 7, 2) := by decide +kernel
theorem dX11_foretold_62 : decode cX11_foretold 62 = .ok (.iload 7, 2) := by decide +kernel
theorem dX11_foretold_64 : decode cX11_foretold 64 = .ok (.aload_n 0, 1) := by decide +kernel
theorem dX11_foretold_65 : decode cX11_foretold 65 = .ok (.getfield 24, 3) := by decide +kernel
theorem dX11_foretold_68 : decode cX11_foretold 68 = .ok (.getfield 162, 3) := by decide +kernel
theorem dX11_foretold_71 : decode cX11_foretold 71 = .ok (.if_icmp .ge 89, 3) := by decide +kernel
theorem dX11_foretold_74 : decode cX11_foretold 74 = .ok (.aload_n 0, 1) := by decide +kernel
theorem dX11_foretold_75 : decode cX11_foretold 75 = .ok (.iload 7, 2) := by decide +kernel
theorem dX11_foretold_77 : decode cX11_foretold 77 = .ok (.iload_n 2, 1) := by decide +kernel
theorem dX11_foretold_78 : decode cX11_foretold 78 = .ok (.invokevirtual 291, 3) := by decide +kernel
theorem dX11_foretold_81 : decode cX11_foretold 81 = .ok (.ifCond .eq 73, 3) := by decide +kernel
theorem dX11_foretold_84 : decode cX11_foretold 84 = .ok (.aload_n 0, 1) := by decide +kernel
theorem dX11_foretold_85 : decode cX11_foretold 85 = .ok (.aload_n 0, 1) := by decide +kernel
theorem dX11_foretold_86 : decode cX11_foretold 86 = .ok (.getfield 24, 3) := by decide +kernel
theorem dX11_foretold_89 : decode cX11_foretold 89 = .ok (.getfield 243, 3) := by decide +kernel
theorem dX11_foretold_92 : decode cX11_foretold 92 = .ok (.iload 7, 2) := by decide +kernel
theorem dX11_foretold_94 : decode cX11_foretold 94 = .ok (.iaload, 1) := by decide +kernel
theorem dX11_foretold_95 : decode cX11_foretold 95 = .ok (.aload_n 0, 1) := by decide +kernel
theorem dX11_foretold_96 : decode cX11_foretold 96 = .ok (.getfield 24, 3) := by decide +kernel
theorem dX11_foretold_99 : decode cX11_foretold 99 = .ok (.getfield 246, 3) := by decide +kernel
theorem dX11_foretold_102 : decode cX11_foretold 102 = .ok (.iload 7, 2) := by decide +kernel
theorem dX11_foretold_104 : decode cX11_foretold 104 = .ok (.iaload, 1) := by decide +kernel
theorem dX11_foretold_105 : decode cX11_foretold 105 = .ok (.aload_n 0, 1) := by decide +kernel
theorem dX11_foretold_106 : decode cX11_foretold 106 = .ok (.getfield 24, 3) := by decide +kernel
theorem dX11_foretold_109 : decode cX11_foretold 109 = .ok (.getfield 249, 3) := by decide +kernel
theorem dX11_foretold_112 : decode cX11_foretold 112 = .ok (.iload 7, 2) := by decide +kernel
theorem dX11_foretold_114 : decode cX11_foretold 114 = .ok (.iaload, 1) := by decide +kernel
theorem dX11_foretold_115 : decode cX11_foretold 115 = .ok (.invokevirtual 229, 3) := by decide +kernel
theorem dX11_foretold_118 : decode cX11_foretold 118 = .ok (.aload_n 0, 1) := by decide +kernel
theorem dX11_foretold_119 : decode cX11_foretold 119 = .ok (.getfield 75, 3) := by decide +kernel
theorem dX11_foretold_122 : decode cX11_foretold 122 = .ok (.iload_n 1, 1) := by decide +kernel
theorem dX11_foretold_123 : decode cX11_foretold 123 = .ok (.invokevirtual 294, 3) := by decide +kernel
theorem dX11_foretold_126 : decode cX11_foretold 126 = .ok (.iload 6, 2) := by decide +kernel
theorem dX11_foretold_128 : decode cX11_foretold 128 = .ok (.iload_n 3, 1) := by decide +kernel
theorem dX11_foretold_129 : decode cX11_foretold 129 = .ok (.iconst 4, 1) := by decide +kernel
theorem dX11_foretold_130 : decode cX11_foretold 130 = .ok (.if_icmp .ne 13, 3) := by decide +kernel
theorem dX11_foretold_133 : decode cX11_foretold 133 = .ok (.aload_n 0, 1) := by decide +kernel
theorem dX11_foretold_134 : decode cX11_foretold 134 = .ok (.getfield 75, 3) := by decide +kernel
theorem dX11_foretold_137 : decode cX11_foretold 137 = .ok (.invokevirtual 233, 3) := by decide +kernel
theorem dX11_foretold_140 : decode cX11_foretold 140 = .ok (.goto 11, 3) := by decide +kernel
theorem dX11_foretold_143 : decode cX11_foretold 143 = .ok (.aload_n 0, 1) := by decide +kernel
theorem dX11_foretold_144 : decode cX11_foretold 144 = .ok (.getfield 75, 3) := by decide +kernel
theorem dX11_foretold_147 : decode cX11_foretold 147 = .ok (.iload_n 3, 1) := by decide +kernel
theorem dX11_foretold_148 : decode cX11_foretold 148 = .ok (.invokevirtual 218, 3) := by decide +kernel
theorem dX11_foretold_151 : decode cX11_foretold 151 = .ok (.iadd, 1) := by decide +kernel
theorem dX11_foretold_152 : decode cX11_foretold 152 = .ok (.istore 6, 2) := by decide +kernel
theorem dX11_foretold_154 : decode cX11_foretold 154 = .ok (.iinc 7 1, 3) := by decide +kernel
theorem dX11_foretold_157 : decode cX11_foretold 157 = .ok (.goto (-95), 3) := by decide +kernel
theorem dX11_foretold_160 : decode cX11_foretold 160 = .ok (.iload 6, 2) := by decide +kernel
theorem dX11_foretold_162 : decode cX11_foretold 162 = .ok (.iload 5, 2) := by decide +kernel
theorem dX11_foretold_164 : decode cX11_foretold 164 = .ok (.idiv, 1) := by decide +kernel
theorem dX11_foretold_165 : decode cX11_foretold 165 = .ok (.ireturn, 1) := by decide +kernel
theorem dX11_isPair_0 : decode cX11_isPair 0 = .ok (.iload_n 2, 1) := by decide +kernel
theorem dX11_isPair_1 : decode cX11_isPair 1 = .ok (.bipush 10, 2) := by decide +kernel
theorem dX11_isPair_3 : decode cX11_isPair 3 = .ok (.idiv, 1) := by decide +kernel
theorem dX11_isPair_4 : decode cX11_isPair 4 = .ok (.bipush 10, 2) := by decide +kernel
theorem dX11_isPair_6 : decode cX11_isPair 6 = .ok (.irem, 1) := by decide +kernel
theorem dX11_isPair_7 : decode cX11_isPair 7 = .ok (.istore 5, 2) := by decide +kernel
theorem dX11_isPair_9 : decode cX11_isPair 9 = .ok (.iload_n 2, 1) := by decide +kernel
theorem dX11_isPair_10 : decode cX11_isPair 10 = .ok (.bipush 10, 2) := by decide +kernel
theorem dX11_isPair_12 : decode cX11_isPair 12 = .ok (.irem, 1) := by decide +kernel
theorem dX11_isPair_13 : decode cX11_isPair 13 = .ok (.istore 6, 2) := by decide +kernel
theorem dX11_isPair_15 : decode cX11_isPair 15 = .ok (.iload 5, 2) := by decide +kernel
theorem dX11_isPair_17 : decode cX11_isPair 17 = .ok (.iload 6, 2) := by decide +kernel
theorem dX11_isPair_19 : decode cX11_isPair 19 = .ok (.if_icmp .ne 5, 3) := by decide +kernel
theorem dX11_isPair_22 : decode cX11_isPair 22 = .ok (.iconst 0, 1) := by decide +kernel
theorem dX11_isPair_23 : decode cX11_isPair 23 = .ok (.ireturn, 1) := by decide +kernel
theorem dX11_isPair_24 : decode cX11_isPair 24 = .ok (.aload_n 0, 1) := by decide +kernel
theorem dX11_isPair_25 : decode cX11_isPair 25 = .ok (.iload_n 2, 1) := by decide +kernel
theorem dX11_isPair_26 : decode cX11_isPair 26 = .ok (.iload_n 3, 1) := by decide +kernel
theorem dX11_isPair_27 : decode cX11_isPair 27 = .ok (.iload 4, 2) := by decide +kernel
theorem dX11_isPair_29 : decode cX11_isPair 29 = .ok (.invokevirtual 229, 3) := by decide +kernel
theorem dX11_isPair_32 : decode cX11_isPair 32 = .ok (.aload_n 0, 1) := by decide +kernel
theorem dX11_isPair_33 : decode cX11_isPair 33 = .ok (.getfield 75, 3) := by decide +kernel
theorem dX11_isPair_36 : decode cX11_isPair 36 = .ok (.iload_n 1, 1) := by decide +kernel
theorem dX11_isPair_37 : decode cX11_isPair 37 = .ok (.bipush 10, 2) := by decide +kernel
theorem dX11_isPair_39 : decode cX11_isPair 39 = .ok (.irem, 1) := by decide +kernel
theorem dX11_isPair_40 : decode cX11_isPair 40 = .ok (.invokevirtual 294, 3) := by decide +kernel
theorem dX11_isPair_43 : decode cX11_isPair 43 = .ok (.iload 5, 2) := by decide +kernel
theorem dX11_isPair_45 : decode cX11_isPair 45 = .ok (.iload 6, 2) := by decide +kernel
theorem dX11_isPair_47 : decode cX11_isPair 47 = .ok (.aload_n 0, 1) := by decide +kernel
theorem dX11_isPair_48 : decode cX11_isPair 48 = .ok (.getfield 75, 3) := by decide +kernel
theorem dX11_isPair_51 : decode cX11_isPair 51 = .ok (.invokevirtual 221, 3) := by decide +kernel
theorem dX11_isPair_54 : decode cX11_isPair 54 = .ok (.invokestatic 351, 3) := by decide +kernel
theorem dX11_isPair_57 : decode cX11_isPair 57 = .ok (.iload_n 1, 1) := by decide +kernel
theorem dX11_isPair_58 : decode cX11_isPair 58 = .ok (.bipush 10, 2) := by decide +kernel
theorem dX11_isPair_60 : decode cX11_isPair 60 = .ok (.idiv, 1) := by decide +kernel
theorem dX11_isPair_61 : decode cX11_isPair 61 = .ok (.if_icmp .ne 7, 3) := by decide +kernel
theorem dX11_isPair_64 : decode cX11_isPair 64 = .ok (.iconst 1, 1) := by decide +kernel
theorem dX11_isPair_65 : decode cX11_isPair 65 = .ok (.goto 4, 3) := by decide +kernel
theorem dX11_isPair_68 : decode cX11_isPair 68 = .ok (.iconst 0, 1) := by decide +kernel
theorem dX11_isPair_69 : decode cX11_isPair 69 = .ok (.ireturn, 1) := by decide +kernel
theorem dX11_pairs_0 : decode cX11_pairs 0 = .ok (.iload_n 1, 1) := by decide +kernel
theorem dX11_pairs_1 : decode cX11_pairs 1 = .ok (.ifCond .lt 33, 3) := by decide +kernel
theorem dX11_pairs_4 : decode cX11_pairs 4 = .ok (.iload_n 1, 1) := by decide +kernel
theorem dX11_pairs_5 : decode cX11_pairs 5 = .ok (.bipush 10, 2) := by decide +kernel
theorem dX11_pairs_7 : decode cX11_pairs 7 = .ok (.idiv, 1) := by decide +kernel
theorem dX11_pairs_8 : decode cX11_pairs 8 = .ok (.invokestatic 215, 3) := by decide +kernel
theorem dX11_pairs_11 : decode cX11_pairs 11 = .ok (.ifCond .eq 23, 3) := by decide +kernel
theorem dX11_pairs_14 : decode cX11_pairs 14 = .ok (.iload_n 1, 1) := by decide +kernel
theorem dX11_pairs_15 : decode cX11_pairs 15 = .ok (.bipush 10, 2) := by decide +kernel
theorem dX11_pairs_17 : decode cX11_pairs 17 = .ok (.irem, 1) := by decide +kernel
theorem dX11_pairs_18 : decode cX11_pairs 18 = .ok (.invokestatic 262, 3) := by decide +kernel
theorem dX11_pairs_21 : decode cX11_pairs 21 = .ok (.ifCond .eq 13, 3) := by decide +kernel
theorem dX11_pairs_24 : decode cX11_pairs 24 = .ok (.iload 5, 2) := by decide +kernel
theorem dX11_pairs_26 : decode cX11_pairs 26 = .ok (.iconst (-1), 1) := by decide +kernel
theorem dX11_pairs_27 : decode cX11_pairs 27 = .ok (.if_icmp .lt 7, 3) := by decide +kernel
theorem dX11_pairs_30 : decode cX11_pairs 30 = .ok (.iconst 1, 1) := by decide +kernel
theorem dX11_pairs_31 : decode cX11_pairs 31 = .ok (.goto 4, 3) := by decide +kernel
theorem dX11_pairs_34 : decode cX11_pairs 34 = .ok (.iconst 0, 1) := by decide +kernel
theorem dX11_pairs_35 : decode cX11_pairs 35 = .ok (.istore 6, 2) := by decide +kernel
theorem dX11_pairs_37 : decode cX11_pairs 37 = .ok (.iload 6, 2) := by decide +kernel
theorem dX11_pairs_39 : decode cX11_pairs 39 = .ok (.ifCond .eq 26, 3) := by decide +kernel
theorem dX11_pairs_42 : decode cX11_pairs 42 = .ok (.aload_n 0, 1) := by decide +kernel
theorem dX11_pairs_43 : decode cX11_pairs 43 = .ok (.iload_n 2, 1) := by decide +kernel
theorem dX11_pairs_44 : decode cX11_pairs 44 = .ok (.invokevirtual 183, 3) := by decide +kernel
theorem dX11_pairs_47 : decode cX11_pairs 47 = .ok (.ifCond .eq 18, 3) := by decide +kernel
theorem dX11_pairs_50 : decode cX11_pairs 50 = .ok (.iload_n 3, 1) := by decide +kernel
theorem dX11_pairs_51 : decode cX11_pairs 51 = .ok (.invokestatic 297, 3) := by decide +kernel
theorem dX11_pairs_54 : decode cX11_pairs 54 = .ok (.ifCond .eq 11, 3) := by decide +kernel
theorem dX11_pairs_57 : decode cX11_pairs 57 = .ok (.iload 4, 2) := by decide +kernel
theorem dX11_pairs_59 : decode cX11_pairs 59 = .ok (.invokestatic 300, 3) := by decide +kernel
theorem dX11_pairs_62 : decode cX11_pairs 62 = .ok (.ifCond .ne 5, 3) := by decide +kernel
theorem dX11_pairs_65 : decode cX11_pairs 65 = .ok (.iconst (-1), 1) := by decide +kernel
theorem dX11_pairs_66 : decode cX11_pairs 66 = .ok (.ireturn, 1) := by decide +kernel
theorem dX11_pairs_67 : decode cX11_pairs 67 = .ok (.iconst 0, 1) := by decide +kernel
theorem dX11_pairs_68 : decode cX11_pairs 68 = .ok (.istore 7, 2) := by decide +kernel
theorem dX11_pairs_70 : decode cX11_pairs 70 = .ok (.iconst 0, 1) := by decide +kernel
theorem dX11_pairs_71 : decode cX11_pairs 71 = .ok (.istore 8, 2) := by decide +kernel
theorem dX11_pairs_73 : decode cX11_pairs 73 = .ok (.iload 8, 2) := by decide +kernel
theorem dX11_pairs_75 : decode cX11_pairs 75 = .ok (.aload_n 0, 1) := by decide +kernel
theorem dX11_pairs_76 : decode cX11_pairs 76 = .ok (.getfield 35, 3) := by decide +kernel
theorem dX11_pairs_79 : decode cX11_pairs 79 = .ok (.getfield 136, 3) := by decide +kernel
theorem dX11_pairs_82 : decode cX11_pairs 82 = .ok (.if_icmp .ge 73, 3) := by decide +kernel
theorem dX11_pairs_85 : decode cX11_pairs 85 = .ok (.iconst 0, 1) := by decide +kernel
theorem dX11_pairs_86 : decode cX11_pairs 86 = .ok (.istore 9, 2) := by decide +kernel
theorem dX11_pairs_88 : decode cX11_pairs 88 = .ok (.iload 9, 2) := by decide +kernel
theorem dX11_pairs_90 : decode cX11_pairs 90 = .ok (.aload_n 0, 1) := by decide +kernel
theorem dX11_pairs_91 : decode cX11_pairs 91 = .ok (.getfield 35, 3) := by decide +kernel
theorem dX11_pairs_94 : decode cX11_pairs 94 = .ok (.getfield 136, 3) := by decide +kernel
theorem dX11_pairs_97 : decode cX11_pairs 97 = .ok (.if_icmp .ge 52, 3) := by decide +kernel
theorem dX11_pairs_100 : decode cX11_pairs 100 = .ok (.aload_n 0, 1) := by decide +kernel
theorem dX11_pairs_101 : decode cX11_pairs 101 = .ok (.iload_n 1, 1) := by decide +kernel
theorem dX11_pairs_102 : decode cX11_pairs 102 = .ok (.iload_n 2, 1) := by decide +kernel
theorem dX11_pairs_103 : decode cX11_pairs 103 = .ok (.bipush 100, 2) := by decide +kernel
theorem dX11_pairs_105 : decode cX11_pairs 105 = .ok (.imul, 1) := by decide +kernel
theorem dX11_pairs_106 : decode cX11_pairs 106 = .ok (.iload 8, 2) := by decide +kernel
theorem dX11_pairs_108 : decode cX11_pairs 108 = .ok (.bipush 10, 2) := by decide +kernel
theorem dX11_pairs_110 : decode cX11_pairs 110 = .ok (.imul, 1) := by decide +kernel
theorem dX11_pairs_111 : decode cX11_pairs 111 = .ok (.iadd, 1) := by decide +kernel
theorem dX11_pairs_112 : decode cX11_pairs 112 = .ok (.iload 9, 2) := by decide +kernel
theorem dX11_pairs_114 : decode cX11_pairs 114 = .ok (.iadd, 1) := by decide +kernel
theorem dX11_pairs_115 : decode cX11_pairs 115 = .ok (.iload_n 3, 1) := by decide +kernel
theorem dX11_pairs_116 : decode cX11_pairs 116 = .ok (.iload 4, 2) := by decide +kernel
theorem dX11_pairs_118 : decode cX11_pairs 118 = .ok (.invokevirtual 303, 3) := by decide +kernel
theorem dX11_pairs_121 : decode cX11_pairs 121 = .ok (.ifCond .eq 22, 3) := by decide +kernel
theorem dX11_pairs_124 : decode cX11_pairs 124 = .ok (.iload 7, 2) := by decide +kernel
theorem dX11_pairs_126 : decode cX11_pairs 126 = .ok (.iload 5, 2) := by decide +kernel
theorem dX11_pairs_128 : decode cX11_pairs 128 = .ok (.if_icmp .ne 12, 3) := by decide +kernel
theorem dX11_pairs_131 : decode cX11_pairs 131 = .ok (.iload 8, 2) := by decide +kernel
theorem dX11_pairs_133 : decode cX11_pairs 133 = .ok (.bipush 10, 2) := by decide +kernel
theorem dX11_pairs_135 : decode cX11_pairs 135 = .ok (.imul, 1) := by decide +kernel
theorem dX11_pairs_136 : decode cX11_pairs 136 = .ok (.iload 9, 2) := by decide +kernel
theorem dX11_pairs_138 : decode cX11_pairs 138 = .ok (.iadd, 1) := by decide +kernel
theorem dX11_pairs_139 : decode cX11_pairs 139 = .ok (.ireturn, 1) := by decide +kernel
theorem dX11_pairs_140 : decode cX11_pairs 140 = .ok (.iinc 7 1, 3) := by decide +kernel
theorem dX11_pairs_143 : decode cX11_pairs 143 = .ok (.iinc 9 1, 3) := by decide +kernel
theorem dX11_pairs_146 : decode cX11_pairs 146 = .ok (.goto (-58), 3) := by decide +kernel
theorem dX11_pairs_149 : decode cX11_pairs 149 = .ok (.iinc 8 1, 3) := by decide +kernel
theorem dX11_pairs_152 : decode cX11_pairs 152 = .ok (.goto (-79), 3) := by decide +kernel
theorem dX11_pairs_155 : decode cX11_pairs 155 = .ok (.iload 5, 2) := by decide +kernel
theorem dX11_pairs_157 : decode cX11_pairs 157 = .ok (.iconst (-1), 1) := by decide +kernel
theorem dX11_pairs_158 : decode cX11_pairs 158 = .ok (.if_icmp .ne 8, 3) := by decide +kernel
theorem dX11_pairs_161 : decode cX11_pairs 161 = .ok (.iload 7, 2) := by decide +kernel
theorem dX11_pairs_163 : decode cX11_pairs 163 = .ok (.goto 4, 3) := by decide +kernel
theorem dX11_pairs_166 : decode cX11_pairs 166 = .ok (.iconst (-1), 1) := by decide +kernel
theorem dX11_pairs_167 : decode cX11_pairs 167 = .ok (.ireturn, 1) := by decide +kernel
theorem dX11_hump_0 : decode cX11_hump 0 = .ok (.iload_n 3, 1) := by decide +kernel
theorem dX11_hump_1 : decode cX11_hump 1 = .ok (.ifCond .lt 18, 3) := by decide +kernel
theorem dX11_hump_4 : decode cX11_hump 4 = .ok (.iload_n 3, 1) := by decide +kernel
theorem dX11_hump_5 : decode cX11_hump 5 = .ok (.iconst 1, 1) := by decide +kernel
theorem dX11_hump_6 : decode cX11_hump 6 = .ok (.if_icmp .gt 13, 3) := by decide +kernel
theorem dX11_hump_9 : decode cX11_hump 9 = .ok (.aload_n 0, 1) := by decide +kernel
theorem dX11_hump_10 : decode cX11_hump 10 = .ok (.iload_n 1, 1) := by decide +kernel
theorem dX11_hump_11 : decode cX11_hump 11 = .ok (.iload_n 2, 1) := by decide +kernel
theorem dX11_hump_12 : decode cX11_hump 12 = .ok (.iconst 0, 1) := by decide +kernel
theorem dX11_hump_13 : decode cX11_hump 13 = .ok (.invokevirtual 225, 3) := by decide +kernel
theorem dX11_hump_16 : decode cX11_hump 16 = .ok (.ifCond .ne 5, 3) := by decide +kernel
theorem dX11_hump_19 : decode cX11_hump 19 = .ok (.iconst (-1), 1) := by decide +kernel
theorem dX11_hump_20 : decode cX11_hump 20 = .ok (.ireturn, 1) := by decide +kernel
theorem dX11_hump_21 : decode cX11_hump 21 = .ok (.aload_n 0, 1) := by decide +kernel
theorem dX11_hump_22 : decode cX11_hump 22 = .ok (.iload_n 1, 1) := by decide +kernel
theorem dX11_hump_23 : decode cX11_hump 23 = .ok (.iload_n 2, 1) := by decide +kernel
theorem dX11_hump_24 : decode cX11_hump 24 = .ok (.iconst 0, 1) := by decide +kernel
theorem dX11_hump_25 : decode cX11_hump 25 = .ok (.invokevirtual 229, 3) := by decide +kernel
theorem dX11_hump_28 : decode cX11_hump 28 = .ok (.aload_n 0, 1) := by decide +kernel
theorem dX11_hump_29 : decode cX11_hump 29 = .ok (.getfield 75, 3) := by decide +kernel
theorem dX11_hump_32 : decode cX11_hump 32 = .ok (.iconst 4, 1) := by decide +kernel
theorem dX11_hump_33 : decode cX11_hump 33 = .ok (.invokevirtual 294, 3) := by decide +kernel
theorem dX11_hump_36 : decode cX11_hump 36 = .ok (.aload_n 0, 1) := by decide +kernel
theorem dX11_hump_37 : decode cX11_hump 37 = .ok (.getfield 75, 3) := by decide +kernel
theorem dX11_hump_40 : decode cX11_hump 40 = .ok (.iconst 3, 1) := by decide +kernel
theorem dX11_hump_41 : decode cX11_hump 41 = .ok (.invokevirtual 218, 3) := by decide +kernel
theorem dX11_hump_44 : decode cX11_hump 44 = .ok (.istore 4, 2) := by decide +kernel
theorem dX11_hump_46 : decode cX11_hump 46 = .ok (.iload 4, 2) := by decide +kernel
theorem dX11_hump_48 : decode cX11_hump 48 = .ok (.ifCond .ne 5, 3) := by decide +kernel
theorem dX11_hump_51 : decode cX11_hump 51 = .ok (.iconst (-1), 1) := by decide +kernel
theorem dX11_hump_52 : decode cX11_hump 52 = .ok (.ireturn, 1) := by decide +kernel
theorem dX11_hump_53 : decode cX11_hump 53 = .ok (.aload_n 0, 1) := by decide +kernel
theorem dX11_hump_54 : decode cX11_hump 54 = .ok (.getfield 24, 3) := by decide +kernel
theorem dX11_hump_57 : decode cX11_hump 57 = .ok (.getfield 192, 3) := by decide +kernel
theorem dX11_hump_60 : decode cX11_hump 60 = .ok (.iload_n 1, 1) := by decide +kernel
theorem dX11_hump_61 : decode cX11_hump 61 = .ok (.bipush 100, 2) := by decide +kernel
theorem dX11_hump_63 : decode cX11_hump 63 = .ok (.idiv, 1) := by decide +kernel
theorem dX11_hump_64 : decode cX11_hump 64 = .ok (.iaload, 1) := by decide +kernel
theorem dX11_hump_65 : decode cX11_hump 65 = .ok (.istore 5, 2) := by decide +kernel
theorem dX11_hump_67 : decode cX11_hump 67 = .ok (.iconst 1, 1) := by decide +kernel
theorem dX11_hump_68 : decode cX11_hump 68 = .ok (.istore 6, 2) := by decide +kernel
theorem dX11_hump_70 : decode cX11_hump 70 = .ok (.iload 6, 2) := by decide +kernel
theorem dX11_hump_72 : decode cX11_hump 72 = .ok (.bipush 99, 2) := by decide +kernel
theorem dX11_hump_74 : decode cX11_hump 74 = .ok (.if_icmp .gt 58, 3) := by decide +kernel
theorem dX11_hump_77 : decode cX11_hump 77 = .ok (.aload_n 0, 1) := by decide +kernel
theorem dX11_hump_78 : decode cX11_hump 78 = .ok (.getfield 75, 3) := by decide +kernel
theorem dX11_hump_81 : decode cX11_hump 81 = .ok (.iload 5, 2) := by decide +kernel
theorem dX11_hump_83 : decode cX11_hump 83 = .ok (.iload_n 3, 1) := by decide +kernel
theorem dX11_hump_84 : decode cX11_hump 84 = .ok (.ifCond .ne 8, 3) := by decide +kernel
theorem dX11_hump_87 : decode cX11_hump 87 = .ok (.iload 6, 2) := by decide +kernel
theorem dX11_hump_89 : decode cX11_hump 89 = .ok (.goto 6, 3) := by decide +kernel
theorem dX11_hump_92 : decode cX11_hump 92 = .ok (.iload 6, 2) := by decide +kernel
theorem dX11_hump_94 : decode cX11_hump 94 = .ok (.ineg, 1) := by decide +kernel
theorem dX11_hump_95 : decode cX11_hump 95 = .ok (.invokevirtual 306, 3) := by decide +kernel
theorem dX11_hump_98 : decode cX11_hump 98 = .ok (.aload_n 0, 1) := by decide +kernel
theorem dX11_hump_99 : decode cX11_hump 99 = .ok (.getfield 75, 3) := by decide +kernel
theorem dX11_hump_102 : decode cX11_hump 102 = .ok (.iconst 4, 1) := by decide +kernel
theorem dX11_hump_103 : decode cX11_hump 103 = .ok (.invokevirtual 294, 3) := by decide +kernel
theorem dX11_hump_106 : decode cX11_hump 106 = .ok (.iconst 2, 1) := by decide +kernel
theorem dX11_hump_107 : decode cX11_hump 107 = .ok (.aload_n 0, 1) := by decide +kernel
theorem dX11_hump_108 : decode cX11_hump 108 = .ok (.getfield 75, 3) := by decide +kernel
theorem dX11_hump_111 : decode cX11_hump 111 = .ok (.iconst 3, 1) := by decide +kernel
theorem dX11_hump_112 : decode cX11_hump 112 = .ok (.invokevirtual 218, 3) := by decide +kernel
theorem dX11_hump_115 : decode cX11_hump 115 = .ok (.imul, 1) := by decide +kernel
theorem dX11_hump_116 : decode cX11_hump 116 = .ok (.iload 4, 2) := by decide +kernel
theorem dX11_hump_118 : decode cX11_hump 118 = .ok (.if_icmp .ge 8, 3) := by decide +kernel
theorem dX11_hump_121 : decode cX11_hump 121 = .ok (.iload 6, 2) := by decide +kernel
theorem dX11_hump_123 : decode cX11_hump 123 = .ok (.iconst 1, 1) := by decide +kernel
theorem dX11_hump_124 : decode cX11_hump 124 = .ok (.isub, 1) := by decide +kernel
theorem dX11_hump_125 : decode cX11_hump 125 = .ok (.ireturn, 1) := by decide +kernel
theorem dX11_hump_126 : decode cX11_hump 126 = .ok (.iinc 6 1, 3) := by decide +kernel
theorem dX11_hump_129 : decode cX11_hump 129 = .ok (.goto (-59), 3) := by decide +kernel
theorem dX11_hump_132 : decode cX11_hump 132 = .ok (.bipush 99, 2) := by decide +kernel
theorem dX11_hump_134 : decode cX11_hump 134 = .ok (.ireturn, 1) := by decide +kernel
theorem dX11_sumRight_0 : decode cX11_sumRight 0 = .ok (.iconst 0, 1) := by decide +kernel
theorem dX11_sumRight_1 : decode cX11_sumRight 1 = .ok (.istore 4, 2) := by decide +kernel
theorem dX11_sumRight_3 : decode cX11_sumRight 3 = .ok (.iconst 0, 1) := by decide +kernel
theorem dX11_sumRight_4 : decode cX11_sumRight 4 = .ok (.istore 5, 2) := by decide +kernel
theorem dX11_sumRight_6 : decode cX11_sumRight 6 = .ok (.iload 5, 2) := by decide +kernel
theorem dX11_sumRight_8 : decode cX11_sumRight 8 = .ok (.aload_n 0, 1) := by decide +kernel
theorem dX11_sumRight_9 : decode cX11_sumRight 9 = .ok (.getfield 35, 3) := by decide +kernel
theorem dX11_sumRight_12 : decode cX11_sumRight 12 = .ok (.getfield 136, 3) := by decide +kernel
theorem dX11_sumRight_15 : decode cX11_sumRight 15 = .ok (.if_icmp .ge 47, 3) := by decide +kernel
theorem dX11_sumRight_18 : decode cX11_sumRight 18 = .ok (.aload_n 0, 1) := by decide +kernel
theorem dX11_sumRight_19 : decode cX11_sumRight 19 = .ok (.iload_n 2, 1) := by decide +kernel
theorem dX11_sumRight_20 : decode cX11_sumRight 20 = .ok (.bipush 100, 2) := by decide +kernel
theorem dX11_sumRight_22 : decode cX11_sumRight 22 = .ok (.imul, 1) := by decide +kernel
theorem dX11_sumRight_23 : decode cX11_sumRight 23 = .ok (.iload 5, 2) := by decide +kernel
theorem dX11_sumRight_25 : decode cX11_sumRight 25 = .ok (.bipush 11, 2) := by decide +kernel
theorem dX11_sumRight_27 : decode cX11_sumRight 27 = .ok (.imul, 1) := by decide +kernel
theorem dX11_sumRight_28 : decode cX11_sumRight 28 = .ok (.iadd, 1) := by decide +kernel
theorem dX11_sumRight_29 : decode cX11_sumRight 29 = .ok (.iload_n 3, 1) := by decide +kernel
theorem dX11_sumRight_30 : decode cX11_sumRight 30 = .ok (.iconst 0, 1) := by decide +kernel
theorem dX11_sumRight_31 : decode cX11_sumRight 31 = .ok (.invokevirtual 229, 3) := by decide +kernel
theorem dX11_sumRight_34 : decode cX11_sumRight 34 = .ok (.aload_n 0, 1) := by decide +kernel
theorem dX11_sumRight_35 : decode cX11_sumRight 35 = .ok (.getfield 75, 3) := by decide +kernel
theorem dX11_sumRight_38 : decode cX11_sumRight 38 = .ok (.iload_n 1, 1) := by decide +kernel
theorem dX11_sumRight_39 : decode cX11_sumRight 39 = .ok (.invokevirtual 294, 3) := by decide +kernel
theorem dX11_sumRight_42 : decode cX11_sumRight 42 = .ok (.iload 4, 2) := by decide +kernel
theorem dX11_sumRight_44 : decode cX11_sumRight 44 = .ok (.aload_n 0, 1) := by decide +kernel
theorem dX11_sumRight_45 : decode cX11_sumRight 45 = .ok (.getfield 75, 3) := by decide +kernel
theorem dX11_sumRight_48 : decode cX11_sumRight 48 = .ok (.iload 5, 2) := by decide +kernel
theorem dX11_sumRight_50 : decode cX11_sumRight 50 = .ok (.invokevirtual 211, 3) := by decide +kernel
theorem dX11_sumRight_53 : decode cX11_sumRight 53 = .ok (.iadd, 1) := by decide +kernel
theorem dX11_sumRight_54 : decode cX11_sumRight 54 = .ok (.istore 4, 2) := by decide +kernel
theorem dX11_sumRight_56 : decode cX11_sumRight 56 = .ok (.iinc 5 1, 3) := by decide +kernel
theorem dX11_sumRight_59 : decode cX11_sumRight 59 = .ok (.goto (-53), 3) := by decide +kernel
theorem dX11_sumRight_62 : decode cX11_sumRight 62 = .ok (.iload 4, 2) := by decide +kernel
theorem dX11_sumRight_64 : decode cX11_sumRight 64 = .ok (.ireturn, 1) := by decide +kernel
theorem dX11_right_0 : decode cX11_right 0 = .ok (.iload_n 1, 1) := by decide +kernel
theorem dX11_right_1 : decode cX11_right 1 = .ok (.invokestatic 262, 3) := by decide +kernel
theorem dX11_right_4 : decode cX11_right 4 = .ok (.ifCond .eq 18, 3) := by decide +kernel
theorem dX11_right_7 : decode cX11_right 7 = .ok (.aload_n 0, 1) := by decide +kernel
theorem dX11_right_8 : decode cX11_right 8 = .ok (.iload_n 2, 1) := by decide +kernel
theorem dX11_right_9 : decode cX11_right 9 = .ok (.invokevirtual 183, 3) := by decide +kernel
theorem dX11_right_12 : decode cX11_right 12 = .ok (.ifCond .eq 10, 3) := by decide +kernel
theorem dX11_right_15 : decode cX11_right 15 = .ok (.iload_n 3, 1) := by decide +kernel
theorem dX11_right_16 : decode cX11_right 16 = .ok (.invokestatic 297, 3) := by decide +kernel
theorem dX11_right_19 : decode cX11_right 19 = .ok (.ifCond .ne 5, 3) := by decide +kernel
theorem dX11_right_22 : decode cX11_right 22 = .ok (.iconst (-1), 1) := by decide +kernel
theorem dX11_right_23 : decode cX11_right 23 = .ok (.ireturn, 1) := by decide +kernel
theorem dX11_right_24 : decode cX11_right 24 = .ok (.aload_n 0, 1) := by decide +kernel
theorem dX11_right_25 : decode cX11_right 25 = .ok (.iload_n 1, 1) := by decide +kernel
theorem dX11_right_26 : decode cX11_right 26 = .ok (.iload_n 2, 1) := by decide +kernel
theorem dX11_right_27 : decode cX11_right 27 = .ok (.iload_n 3, 1) := by decide +kernel
theorem dX11_right_28 : decode cX11_right 28 = .ok (.invokevirtual 310, 3) := by decide +kernel
theorem dX11_right_31 : decode cX11_right 31 = .ok (.ireturn, 1) := by decide +kernel
theorem dX11_worth_0 : decode cX11_worth 0 = .ok (.iload_n 1, 1) := by decide +kernel
theorem dX11_worth_1 : decode cX11_worth 1 = .ok (.invokestatic 262, 3) := by decide +kernel
theorem dX11_worth_4 : decode cX11_worth 4 = .ok (.ifCond .eq 18, 3) := by decide +kernel
theorem dX11_worth_7 : decode cX11_worth 7 = .ok (.aload_n 0, 1) := by decide +kernel
theorem dX11_worth_8 : decode cX11_worth 8 = .ok (.iload_n 2, 1) := by decide +kernel
theorem dX11_worth_9 : decode cX11_worth 9 = .ok (.invokevirtual 183, 3) := by decide +kernel
theorem dX11_worth_12 : decode cX11_worth 12 = .ok (.ifCond .eq 10, 3) := by decide +kernel
theorem dX11_worth_15 : decode cX11_worth 15 = .ok (.iload_n 3, 1) := by decide +kernel
theorem dX11_worth_16 : decode cX11_worth 16 = .ok (.invokestatic 297, 3) := by decide +kernel
theorem dX11_worth_19 : decode cX11_worth 19 = .ok (.ifCond .ne 5, 3) := by decide +kernel
theorem dX11_worth_22 : decode cX11_worth 22 = .ok (.iconst (-1), 1) := by decide +kernel
theorem dX11_worth_23 : decode cX11_worth 23 = .ok (.ireturn, 1) := by decide +kernel
theorem dX11_worth_24 : decode cX11_worth 24 = .ok (.aload_n 0, 1) := by decide +kernel
theorem dX11_worth_25 : decode cX11_worth 25 = .ok (.iload_n 1, 1) := by decide +kernel
theorem dX11_worth_26 : decode cX11_worth 26 = .ok (.iload_n 2, 1) := by decide +kernel
theorem dX11_worth_27 : decode cX11_worth 27 = .ok (.iload_n 3, 1) := by decide +kernel
theorem dX11_worth_28 : decode cX11_worth 28 = .ok (.invokevirtual 310, 3) := by decide +kernel
theorem dX11_worth_31 : decode cX11_worth 31 = .ok (.istore 4, 2) := by decide +kernel
theorem dX11_worth_33 : decode cX11_worth 33 = .ok (.iload_n 3, 1) := by decide +kernel
theorem dX11_worth_34 : decode cX11_worth 34 = .ok (.bipush 10, 2) := by decide +kernel
theorem dX11_worth_36 : decode cX11_worth 36 = .ok (.idiv, 1) := by decide +kernel
theorem dX11_worth_37 : decode cX11_worth 37 = .ok (.istore 5, 2) := by decide +kernel
theorem dX11_worth_39 : decode cX11_worth 39 = .ok (.iconst 0, 1) := by decide +kernel
theorem dX11_worth_40 : decode cX11_worth 40 = .ok (.istore 6, 2) := by decide +kernel
theorem dX11_worth_42 : decode cX11_worth 42 = .ok (.iload 6, 2) := by decide +kernel
theorem dX11_worth_44 : decode cX11_worth 44 = .ok (.iload 5, 2) := by decide +kernel
theorem dX11_worth_46 : decode cX11_worth 46 = .ok (.if_icmp .gt 30, 3) := by decide +kernel
theorem dX11_worth_49 : decode cX11_worth 49 = .ok (.aload_n 0, 1) := by decide +kernel
theorem dX11_worth_50 : decode cX11_worth 50 = .ok (.iconst 0, 1) := by decide +kernel
theorem dX11_worth_51 : decode cX11_worth 51 = .ok (.iload_n 2, 1) := by decide +kernel
theorem dX11_worth_52 : decode cX11_worth 52 = .ok (.iload_n 3, 1) := by decide +kernel
theorem dX11_worth_53 : decode cX11_worth 53 = .ok (.iload 6, 2) := by decide +kernel
theorem dX11_worth_55 : decode cX11_worth 55 = .ok (.bipush 10, 2) := by decide +kernel
theorem dX11_worth_57 : decode cX11_worth 57 = .ok (.imul, 1) := by decide +kernel
theorem dX11_worth_58 : decode cX11_worth 58 = .ok (.isub, 1) := by decide +kernel
theorem dX11_worth_59 : decode cX11_worth 59 = .ok (.invokevirtual 310, 3) := by decide +kernel
theorem dX11_worth_62 : decode cX11_worth 62 = .ok (.iload 4, 2) := by decide +kernel
theorem dX11_worth_64 : decode cX11_worth 64 = .ok (.if_icmp .lt 6, 3) := by decide +kernel
theorem dX11_worth_67 : decode cX11_worth 67 = .ok (.iload 6, 2) := by decide +kernel
theorem dX11_worth_69 : decode cX11_worth 69 = .ok (.ireturn, 1) := by decide +kernel
theorem dX11_worth_70 : decode cX11_worth 70 = .ok (.iinc 6 1, 3) := by decide +kernel
theorem dX11_worth_73 : decode cX11_worth 73 = .ok (.goto (-31), 3) := by decide +kernel
theorem dX11_worth_76 : decode cX11_worth 76 = .ok (.iconst (-1), 1) := by decide +kernel
theorem dX11_worth_77 : decode cX11_worth 77 = .ok (.ireturn, 1) := by decide +kernel
theorem dX11_areLaws_0 : decode cX11_areLaws 0 = .ok (.iload_n 0, 1) := by decide +kernel
theorem dX11_areLaws_1 : decode cX11_areLaws 1 = .ok (.ifCond .lt 27, 3) := by decide +kernel
theorem dX11_areLaws_4 : decode cX11_areLaws 4 = .ok (.iload_n 0, 1) := by decide +kernel
theorem dX11_areLaws_5 : decode cX11_areLaws 5 = .ok (.bipush 10, 2) := by decide +kernel
theorem dX11_areLaws_7 : decode cX11_areLaws 7 = .ok (.idiv, 1) := by decide +kernel
theorem dX11_areLaws_8 : decode cX11_areLaws 8 = .ok (.invokestatic 262, 3) := by decide +kernel
theorem dX11_areLaws_11 : decode cX11_areLaws 11 = .ok (.ifCond .eq 17, 3) := by decide +kernel
theorem dX11_areLaws_14 : decode cX11_areLaws 14 = .ok (.iload_n 0, 1) := by decide +kernel
theorem dX11_areLaws_15 : decode cX11_areLaws 15 = .ok (.bipush 10, 2) := by decide +kernel
theorem dX11_areLaws_17 : decode cX11_areLaws 17 = .ok (.irem, 1) := by decide +kernel
theorem dX11_areLaws_18 : decode cX11_areLaws 18 = .ok (.invokestatic 262, 3) := by decide +kernel
theorem dX11_areLaws_21 : decode cX11_areLaws 21 = .ok (.ifCond .eq 7, 3) := by decide +kernel
theorem dX11_areLaws_24 : decode cX11_areLaws 24 = .ok (.iconst 1, 1) := by decide +kernel
theorem dX11_areLaws_25 : decode cX11_areLaws 25 = .ok (.goto 4, 3) := by decide +kernel
theorem dX11_areLaws_28 : decode cX11_areLaws 28 = .ok (.iconst 0, 1) := by decide +kernel
theorem dX11_areLaws_29 : decode cX11_areLaws 29 = .ok (.ireturn, 1) := by decide +kernel
theorem dX10_partedBy_0 : decode cX10_partedBy 0 = .ok (.aload_n 0, 1) := by decide +kernel
theorem dX10_partedBy_1 : decode cX10_partedBy 1 = .ok (.iload_n 1, 1) := by decide +kernel
theorem dX10_partedBy_2 : decode cX10_partedBy 2 = .ok (.invokevirtual 148, 3) := by decide +kernel
theorem dX10_partedBy_5 : decode cX10_partedBy 5 = .ok (.aload_n 0, 1) := by decide +kernel
theorem dX10_partedBy_6 : decode cX10_partedBy 6 = .ok (.getfield 50, 3) := by decide +kernel
theorem dX10_partedBy_9 : decode cX10_partedBy 9 = .ok (.astore_n 3, 1) := by decide +kernel
theorem dX10_partedBy_10 : decode cX10_partedBy 10 = .ok (.aload_n 0, 1) := by decide +kernel
theorem dX10_partedBy_11 : decode cX10_partedBy 11 = .ok (.aload_n 0, 1) := by decide +kernel
theorem dX10_partedBy_12 : decode cX10_partedBy 12 = .ok (.getfield 56, 3) := by decide +kernel
theorem dX10_partedBy_15 : decode cX10_partedBy 15 = .ok (.putfield 50, 3) := by decide +kernel
theorem dX10_partedBy_18 : decode cX10_partedBy 18 = .ok (.aload_n 0, 1) := by decide +kernel
theorem dX10_partedBy_19 : decode cX10_partedBy 19 = .ok (.aload_n 3, 1) := by decide +kernel
theorem dX10_partedBy_20 : decode cX10_partedBy 20 = .ok (.putfield 56, 3) := by decide +kernel
theorem dX10_partedBy_23 : decode cX10_partedBy 23 = .ok (.aload_n 0, 1) := by decide +kernel
theorem dX10_partedBy_24 : decode cX10_partedBy 24 = .ok (.getfield 53, 3) := by decide +kernel
theorem dX10_partedBy_27 : decode cX10_partedBy 27 = .ok (.lstore 4, 2) := by decide +kernel
theorem dX10_partedBy_29 : decode cX10_partedBy 29 = .ok (.aload_n 0, 1) := by decide +kernel
theorem dX10_partedBy_30 : decode cX10_partedBy 30 = .ok (.iload_n 2, 1) := by decide +kernel
theorem dX10_partedBy_31 : decode cX10_partedBy 31 = .ok (.invokevirtual 148, 3) := by decide +kernel
theorem dX10_partedBy_34 : decode cX10_partedBy 34 = .ok (.lconst 0, 1) := by decide +kernel
theorem dX10_partedBy_35 : decode cX10_partedBy 35 = .ok (.lstore 6, 2) := by decide +kernel
theorem dX10_partedBy_37 : decode cX10_partedBy 37 = .ok (.iconst 0, 1) := by decide +kernel
theorem dX10_partedBy_38 : decode cX10_partedBy 38 = .ok (.istore 8, 2) := by decide +kernel
theorem dX10_partedBy_40 : decode cX10_partedBy 40 = .ok (.iload 8, 2) := by decide +kernel
theorem dX10_partedBy_42 : decode cX10_partedBy 42 = .ok (.aload_n 0, 1) := by decide +kernel
theorem dX10_partedBy_43 : decode cX10_partedBy 43 = .ok (.getfield 59, 3) := by decide +kernel
theorem dX10_partedBy_46 : decode cX10_partedBy 46 = .ok (.getfield 79, 3) := by decide +kernel
theorem dX10_partedBy_49 : decode cX10_partedBy 49 = .ok (.if_icmp .ge 40, 3) := by decide +kernel
theorem dX10_partedBy_52 : decode cX10_partedBy 52 = .ok (.lload 6, 2) := by decide +kernel
theorem dX10_partedBy_54 : decode cX10_partedBy 54 = .ok (.aload_n 0, 1) := by decide +kernel
theorem dX10_partedBy_55 : decode cX10_partedBy 55 = .ok (.getfield 50, 3) := by decide +kernel
theorem dX10_partedBy_58 : decode cX10_partedBy 58 = .ok (.iload 8, 2) := by decide +kernel
theorem dX10_partedBy_60 : decode cX10_partedBy 60 = .ok (.laload, 1) := by decide +kernel
theorem dX10_partedBy_61 : decode cX10_partedBy 61 = .ok (.lload 4, 2) := by decide +kernel
theorem dX10_partedBy_63 : decode cX10_partedBy 63 = .ok (.lmul, 1) := by decide +kernel
theorem dX10_partedBy_64 : decode cX10_partedBy 64 = .ok (.aload_n 0, 1) := by decide +kernel
theorem dX10_partedBy_65 : decode cX10_partedBy 65 = .ok (.getfield 56, 3) := by decide +kernel
theorem dX10_partedBy_68 : decode cX10_partedBy 68 = .ok (.iload 8, 2) := by decide +kernel
theorem dX10_partedBy_70 : decode cX10_partedBy 70 = .ok (.laload, 1) := by decide +kernel
theorem dX10_partedBy_71 : decode cX10_partedBy 71 = .ok (.aload_n 0, 1) := by decide +kernel
theorem dX10_partedBy_72 : decode cX10_partedBy 72 = .ok (.getfield 53, 3) := by decide +kernel
theorem dX10_partedBy_75 : decode cX10_partedBy 75 = .ok (.lmul, 1) := by decide +kernel
theorem dX10_partedBy_76 : decode cX10_partedBy 76 = .ok (.lsub, 1) := by decide +kernel
theorem dX10_partedBy_77 : decode cX10_partedBy 77 = .ok (.invokestatic 151, 3) := by decide +kernel
theorem dX10_partedBy_80 : decode cX10_partedBy 80 = .ok (.ladd, 1) := by decide +kernel
theorem dX10_partedBy_81 : decode cX10_partedBy 81 = .ok (.lstore 6, 2) := by decide +kernel
theorem dX10_partedBy_83 : decode cX10_partedBy 83 = .ok (.iinc 8 1, 3) := by decide +kernel
theorem dX10_partedBy_86 : decode cX10_partedBy 86 = .ok (.goto (-46), 3) := by decide +kernel
theorem dX10_partedBy_89 : decode cX10_partedBy 89 = .ok (.lload 6, 2) := by decide +kernel
theorem dX10_partedBy_91 : decode cX10_partedBy 91 = .ok (.ldc2_w 154, 3) := by decide +kernel
theorem dX10_partedBy_94 : decode cX10_partedBy 94 = .ok (.aload_n 0, 1) := by decide +kernel
theorem dX10_partedBy_95 : decode cX10_partedBy 95 = .ok (.getfield 53, 3) := by decide +kernel
theorem dX10_partedBy_98 : decode cX10_partedBy 98 = .ok (.lmul, 1) := by decide +kernel
theorem dX10_partedBy_99 : decode cX10_partedBy 99 = .ok (.lload 4, 2) := by decide +kernel
theorem dX10_partedBy_101 : decode cX10_partedBy 101 = .ok (.lmul, 1) := by decide +kernel
theorem dX10_partedBy_102 : decode cX10_partedBy 102 = .ok (.invokestatic 141, 3) := by decide +kernel
theorem dX10_partedBy_105 : decode cX10_partedBy 105 = .ok (.ireturn, 1) := by decide +kernel
theorem dX11_parted_0 : decode cX11_parted 0 = .ok (.iload_n 1, 1) := by decide +kernel
theorem dX11_parted_1 : decode cX11_parted 1 = .ok (.invokestatic 314, 3) := by decide +kernel
theorem dX11_parted_4 : decode cX11_parted 4 = .ok (.ifCond .eq 14, 3) := by decide +kernel
theorem dX11_parted_7 : decode cX11_parted 7 = .ok (.aload_n 0, 1) := by decide +kernel
theorem dX11_parted_8 : decode cX11_parted 8 = .ok (.iload_n 2, 1) := by decide +kernel
theorem dX11_parted_9 : decode cX11_parted 9 = .ok (.iload_n 3, 1) := by decide +kernel
theorem dX11_parted_10 : decode cX11_parted 10 = .ok (.iload 4, 2) := by decide +kernel
theorem dX11_parted_12 : decode cX11_parted 12 = .ok (.invokevirtual 225, 3) := by decide +kernel
theorem dX11_parted_15 : decode cX11_parted 15 = .ok (.ifCond .ne 5, 3) := by decide +kernel
theorem dX11_parted_18 : decode cX11_parted 18 = .ok (.iconst (-1), 1) := by decide +kernel
theorem dX11_parted_19 : decode cX11_parted 19 = .ok (.ireturn, 1) := by decide +kernel
theorem dX11_parted_20 : decode cX11_parted 20 = .ok (.aload_n 0, 1) := by decide +kernel
theorem dX11_parted_21 : decode cX11_parted 21 = .ok (.iload_n 2, 1) := by decide +kernel
theorem dX11_parted_22 : decode cX11_parted 22 = .ok (.iload_n 3, 1) := by decide +kernel
theorem dX11_parted_23 : decode cX11_parted 23 = .ok (.iload 4, 2) := by decide +kernel
theorem dX11_parted_25 : decode cX11_parted 25 = .ok (.invokevirtual 229, 3) := by decide +kernel
theorem dX11_parted_28 : decode cX11_parted 28 = .ok (.aload_n 0, 1) := by decide +kernel
theorem dX11_parted_29 : decode cX11_parted 29 = .ok (.getfield 75, 3) := by decide +kernel
theorem dX11_parted_32 : decode cX11_parted 32 = .ok (.iload_n 1, 1) := by decide +kernel
theorem dX11_parted_33 : decode cX11_parted 33 = .ok (.bipush 10, 2) := by decide +kernel
theorem dX11_parted_35 : decode cX11_parted 35 = .ok (.idiv, 1) := by decide +kernel
theorem dX11_parted_36 : decode cX11_parted 36 = .ok (.iload_n 1, 1) := by decide +kernel
theorem dX11_parted_37 : decode cX11_parted 37 = .ok (.bipush 10, 2) := by decide +kernel
theorem dX11_parted_39 : decode cX11_parted 39 = .ok (.irem, 1) := by decide +kernel
theorem dX11_parted_40 : decode cX11_parted 40 = .ok (.invokevirtual 317, 3) := by decide +kernel
theorem dX11_parted_43 : decode cX11_parted 43 = .ok (.ireturn, 1) := by decide +kernel
theorem dX11_next_0 : decode cX11_next 0 = .ok (.iload_n 1, 1) := by decide +kernel
theorem dX11_next_1 : decode cX11_next 1 = .ok (.invokestatic 314, 3) := by decide +kernel
theorem dX11_next_4 : decode cX11_next 4 = .ok (.ifCond .eq 28, 3) := by decide +kernel
theorem dX11_next_7 : decode cX11_next 7 = .ok (.iload_n 3, 1) := by decide +kernel
theorem dX11_next_8 : decode cX11_next 8 = .ok (.ifCond .lt 24, 3) := by decide +kernel
theorem dX11_next_11 : decode cX11_next 11 = .ok (.iload_n 3, 1) := by decide +kernel
theorem dX11_next_12 : decode cX11_next 12 = .ok (.bipush 10, 2) := by decide +kernel
theorem dX11_next_14 : decode cX11_next 14 = .ok (.if_icmp .ge 18, 3) := by decide +kernel
theorem dX11_next_17 : decode cX11_next 17 = .ok (.iload 4, 2) := by decide +kernel
theorem dX11_next_19 : decode cX11_next 19 = .ok (.ifCond .eq 9, 3) := by decide +kernel
theorem dX11_next_22 : decode cX11_next 22 = .ok (.iload 4, 2) := by decide +kernel
theorem dX11_next_24 : decode cX11_next 24 = .ok (.iconst 1, 1) := by decide +kernel
theorem dX11_next_25 : decode cX11_next 25 = .ok (.if_icmp .ne 7, 3) := by decide +kernel
theorem dX11_next_28 : decode cX11_next 28 = .ok (.iconst 1, 1) := by decide +kernel
theorem dX11_next_29 : decode cX11_next 29 = .ok (.goto 4, 3) := by decide +kernel
theorem dX11_next_32 : decode cX11_next 32 = .ok (.iconst 0, 1) := by decide +kernel
theorem dX11_next_33 : decode cX11_next 33 = .ok (.istore 5, 2) := by decide +kernel
theorem dX11_next_35 : decode cX11_next 35 = .ok (.iload 5, 2) := by decide +kernel
theorem dX11_next_37 : decode cX11_next 37 = .ok (.ifCond .eq 11, 3) := by decide +kernel
theorem dX11_next_40 : decode cX11_next 40 = .ok (.aload_n 0, 1) := by decide +kernel
theorem dX11_next_41 : decode cX11_next 41 = .ok (.iload_n 2, 1) := by decide +kernel
theorem dX11_next_42 : decode cX11_next 42 = .ok (.invokevirtual 183, 3) := by decide +kernel
theorem dX11_next_45 : decode cX11_next 45 = .ok (.ifCond .ne 5, 3) := by decide +kernel
theorem dX11_next_48 : decode cX11_next 48 = .ok (.iconst (-1), 1) := by decide +kernel
theorem dX11_next_49 : decode cX11_next 49 = .ok (.ireturn, 1) := by decide +kernel
theorem dX11_next_50 : decode cX11_next 50 = .ok (.iconst (-1), 1) := by decide +kernel
theorem dX11_next_51 : decode cX11_next 51 = .ok (.istore 6, 2) := by decide +kernel
theorem dX11_next_53 : decode cX11_next 53 = .ok (.iconst (-1), 1) := by decide +kernel
theorem dX11_next_54 : decode cX11_next 54 = .ok (.istore 7, 2) := by decide +kernel
theorem dX11_next_56 : decode cX11_next 56 = .ok (.iconst 0, 1) := by decide +kernel
theorem dX11_next_57 : decode cX11_next 57 = .ok (.istore 8, 2) := by decide +kernel
theorem dX11_next_59 : decode cX11_next 59 = .ok (.iload 8, 2) := by decide +kernel
theorem dX11_next_61 : decode cX11_next 61 = .ok (.aload_n 0, 1) := by decide +kernel
theorem dX11_next_62 : decode cX11_next 62 = .ok (.getfield 35, 3) := by decide +kernel
theorem dX11_next_65 : decode cX11_next 65 = .ok (.getfield 136, 3) := by decide +kernel
theorem dX11_next_68 : decode cX11_next 68 = .ok (.if_icmp .ge 115, 3) := by decide +kernel
theorem dX11_next_71 : decode cX11_next 71 = .ok (.iconst 0, 1) := by decide +kernel
theorem dX11_next_72 : decode cX11_next 72 = .ok (.istore 9, 2) := by decide +kernel
theorem dX11_next_74 : decode cX11_next 74 = .ok (.iload 9, 2) := by decide +kernel
theorem dX11_next_76 : decode cX11_next 76 = .ok (.aload_n 0, 1) := by decide +kernel
theorem dX11_next_77 : decode cX11_next 77 = .ok (.getfield 35, 3) := by decide +kernel
theorem dX11_next_80 : decode cX11_next 80 = .ok (.getfield 136, 3) := by decide +kernel
theorem dX11_next_83 : decode cX11_next 83 = .ok (.if_icmp .ge 94, 3) := by decide +kernel
theorem dX11_next_86 : decode cX11_next 86 = .ok (.iconst 0, 1) := by decide +kernel
theorem dX11_next_87 : decode cX11_next 87 = .ok (.istore 10, 2) := by decide +kernel
theorem dX11_next_89 : decode cX11_next 89 = .ok (.iload 10, 2) := by decide +kernel
theorem dX11_next_91 : decode cX11_next 91 = .ok (.bipush 10, 2) := by decide +kernel
theorem dX11_next_93 : decode cX11_next 93 = .ok (.if_icmp .ge 78, 3) := by decide +kernel
theorem dX11_next_96 : decode cX11_next 96 = .ok (.aload_n 0, 1) := by decide +kernel
theorem dX11_next_97 : decode cX11_next 97 = .ok (.iload_n 2, 1) := by decide +kernel
theorem dX11_next_98 : decode cX11_next 98 = .ok (.bipush 100, 2) := by decide +kernel
theorem dX11_next_100 : decode cX11_next 100 = .ok (.imul, 1) := by decide +kernel
theorem dX11_next_101 : decode cX11_next 101 = .ok (.iload 8, 2) := by decide +kernel
theorem dX11_next_103 : decode cX11_next 103 = .ok (.bipush 10, 2) := by decide +kernel
theorem dX11_next_105 : decode cX11_next 105 = .ok (.imul, 1) := by decide +kernel
theorem dX11_next_106 : decode cX11_next 106 = .ok (.iadd, 1) := by decide +kernel
theorem dX11_next_107 : decode cX11_next 107 = .ok (.iload 9, 2) := by decide +kernel
theorem dX11_next_109 : decode cX11_next 109 = .ok (.iadd, 1) := by decide +kernel
theorem dX11_next_110 : decode cX11_next 110 = .ok (.iload 10, 2) := by decide +kernel
theorem dX11_next_112 : decode cX11_next 112 = .ok (.bipush 10, 2) := by decide +kernel
theorem dX11_next_114 : decode cX11_next 114 = .ok (.imul, 1) := by decide +kernel
theorem dX11_next_115 : decode cX11_next 115 = .ok (.iload_n 3, 1) := by decide +kernel
theorem dX11_next_116 : decode cX11_next 116 = .ok (.iadd, 1) := by decide +kernel
theorem dX11_next_117 : decode cX11_next 117 = .ok (.iconst 0, 1) := by decide +kernel
theorem dX11_next_118 : decode cX11_next 118 = .ok (.invokevirtual 229, 3) := by decide +kernel
theorem dX11_next_121 : decode cX11_next 121 = .ok (.aload_n 0, 1) := by decide +kernel
theorem dX11_next_122 : decode cX11_next 122 = .ok (.getfield 75, 3) := by decide +kernel
theorem dX11_next_125 : decode cX11_next 125 = .ok (.iload_n 1, 1) := by decide +kernel
theorem dX11_next_126 : decode cX11_next 126 = .ok (.bipush 10, 2) := by decide +kernel
theorem dX11_next_128 : decode cX11_next 128 = .ok (.idiv, 1) := by decide +kernel
theorem dX11_next_129 : decode cX11_next 129 = .ok (.iload_n 1, 1) := by decide +kernel
theorem dX11_next_130 : decode cX11_next 130 = .ok (.bipush 10, 2) := by decide +kernel
theorem dX11_next_132 : decode cX11_next 132 = .ok (.irem, 1) := by decide +kernel
theorem dX11_next_133 : decode cX11_next 133 = .ok (.invokevirtual 317, 3) := by decide +kernel
theorem dX11_next_136 : decode cX11_next 136 = .ok (.istore 11, 2) := by decide +kernel
theorem dX11_next_138 : decode cX11_next 138 = .ok (.iload 11, 2) := by decide +kernel
theorem dX11_next_140 : decode cX11_next 140 = .ok (.iload 6, 2) := by decide +kernel
theorem dX11_next_142 : decode cX11_next 142 = .ok (.if_icmp .le 23, 3) := by decide +kernel
theorem dX11_next_145 : decode cX11_next 145 = .ok (.iload 11, 2) := by decide +kernel
theorem dX11_next_147 : decode cX11_next 147 = .ok (.istore 6, 2) := by decide +kernel
theorem dX11_next_149 : decode cX11_next 149 = .ok (.iload 8, 2) := by decide +kernel
theorem dX11_next_151 : decode cX11_next 151 = .ok (.bipush 100, 2) := by decide +kernel
theorem dX11_next_153 : decode cX11_next 153 = .ok (.imul, 1) := by decide +kernel
theorem dX11_next_154 : decode cX11_next 154 = .ok (.iload 9, 2) := by decide +kernel
theorem dX11_next_156 : decode cX11_next 156 = .ok (.bipush 10, 2) := by decide +kernel
theorem dX11_next_158 : decode cX11_next 158 = .ok (.imul, 1) := by decide +kernel
theorem dX11_next_159 : decode cX11_next 159 = .ok (.iadd, 1) := by decide +kernel
theorem dX11_next_160 : decode cX11_next 160 = .ok (.iload 10, 2) := by decide +kernel
theorem dX11_next_162 : decode cX11_next 162 = .ok (.iadd, 1) := by decide +kernel
theorem dX11_next_163 : decode cX11_next 163 = .ok (.istore 7, 2) := by decide +kernel
theorem dX11_next_165 : decode cX11_next 165 = .ok (.iinc 10 1, 3) := by decide +kernel
theorem dX11_next_168 : decode cX11_next 168 = .ok (.goto (-79), 3) := by decide +kernel
theorem dX11_next_171 : decode cX11_next 171 = .ok (.iinc 9 1, 3) := by decide +kernel
theorem dX11_next_174 : decode cX11_next 174 = .ok (.goto (-100), 3) := by decide +kernel
theorem dX11_next_177 : decode cX11_next 177 = .ok (.iinc 8 1, 3) := by decide +kernel
theorem dX11_next_180 : decode cX11_next 180 = .ok (.goto (-121), 3) := by decide +kernel
theorem dX11_next_183 : decode cX11_next 183 = .ok (.iload 4, 2) := by decide +kernel
theorem dX11_next_185 : decode cX11_next 185 = .ok (.ifCond .ne 8, 3) := by decide +kernel
theorem dX11_next_188 : decode cX11_next 188 = .ok (.iload 7, 2) := by decide +kernel
theorem dX11_next_190 : decode cX11_next 190 = .ok (.goto 5, 3) := by decide +kernel
theorem dX11_next_193 : decode cX11_next 193 = .ok (.iload 6, 2) := by decide +kernel
theorem dX11_next_195 : decode cX11_next 195 = .ok (.ireturn, 1) := by decide +kernel
theorem dX11_knowing_0 : decode cX11_knowing 0 = .ok (.aload_n 0, 1) := by decide +kernel
theorem dX11_knowing_1 : decode cX11_knowing 1 = .ok (.iload_n 1, 1) := by decide +kernel
theorem dX11_knowing_2 : decode cX11_knowing 2 = .ok (.iload_n 2, 1) := by decide +kernel
theorem dX11_knowing_3 : decode cX11_knowing 3 = .ok (.iload_n 3, 1) := by decide +kernel
theorem dX11_knowing_4 : decode cX11_knowing 4 = .ok (.iload 4, 2) := by decide +kernel
theorem dX11_knowing_6 : decode cX11_knowing 6 = .ok (.invokevirtual 201, 3) := by decide +kernel
theorem dX11_knowing_9 : decode cX11_knowing 9 = .ok (.ifCond .ne 5, 3) := by decide +kernel
theorem dX11_knowing_12 : decode cX11_knowing 12 = .ok (.iconst (-1), 1) := by decide +kernel
theorem dX11_knowing_13 : decode cX11_knowing 13 = .ok (.ireturn, 1) := by decide +kernel
theorem dX11_knowing_14 : decode cX11_knowing 14 = .ok (.aload_n 0, 1) := by decide +kernel
theorem dX11_knowing_15 : decode cX11_knowing 15 = .ok (.getfield 75, 3) := by decide +kernel
theorem dX11_knowing_18 : decode cX11_knowing 18 = .ok (.invokevirtual 221, 3) := by decide +kernel
theorem dX11_knowing_21 : decode cX11_knowing 21 = .ok (.istore 5, 2) := by decide +kernel
theorem dX11_knowing_23 : decode cX11_knowing 23 = .ok (.aload_n 0, 1) := by decide +kernel
theorem dX11_knowing_24 : decode cX11_knowing 24 = .ok (.getfield 75, 3) := by decide +kernel
theorem dX11_knowing_27 : decode cX11_knowing 27 = .ok (.iconst 0, 1) := by decide +kernel
theorem dX11_knowing_28 : decode cX11_knowing 28 = .ok (.iload 4, 2) := by decide +kernel
theorem dX11_knowing_30 : decode cX11_knowing 30 = .ok (.invokevirtual 306, 3) := by decide +kernel
theorem dX11_knowing_33 : decode cX11_knowing 33 = .ok (.aload_n 0, 1) := by decide +kernel
theorem dX11_knowing_34 : decode cX11_knowing 34 = .ok (.getfield 75, 3) := by decide +kernel
theorem dX11_knowing_37 : decode cX11_knowing 37 = .ok (.iload_n 1, 1) := by decide +kernel
theorem dX11_knowing_38 : decode cX11_knowing 38 = .ok (.invokevirtual 294, 3) := by decide +kernel
theorem dX11_knowing_41 : decode cX11_knowing 41 = .ok (.aload_n 0, 1) := by decide +kernel
theorem dX11_knowing_42 : decode cX11_knowing 42 = .ok (.getfield 75, 3) := by decide +kernel
theorem dX11_knowing_45 : decode cX11_knowing 45 = .ok (.invokevirtual 221, 3) := by decide +kernel
theorem dX11_knowing_48 : decode cX11_knowing 48 = .ok (.iload 5, 2) := by decide +kernel
theorem dX11_knowing_50 : decode cX11_knowing 50 = .ok (.if_icmp .ne 7, 3) := by decide +kernel
theorem dX11_knowing_53 : decode cX11_knowing 53 = .ok (.iconst 1, 1) := by decide +kernel
theorem dX11_knowing_54 : decode cX11_knowing 54 = .ok (.goto 4, 3) := by decide +kernel
theorem dX11_knowing_57 : decode cX11_knowing 57 = .ok (.iconst 0, 1) := by decide +kernel
theorem dX11_knowing_58 : decode cX11_knowing 58 = .ok (.ireturn, 1) := by decide +kernel
theorem dX11_fillAtoms_0 : decode cX11_fillAtoms 0 = .ok (.aload_n 0, 1) := by decide +kernel
theorem dX11_fillAtoms_1 : decode cX11_fillAtoms 1 = .ok (.getfield 75, 3) := by decide +kernel
theorem dX11_fillAtoms_4 : decode cX11_fillAtoms 4 = .ok (.iconst 4, 1) := by decide +kernel
theorem dX11_fillAtoms_5 : decode cX11_fillAtoms 5 = .ok (.invokevirtual 294, 3) := by decide +kernel
theorem dX11_fillAtoms_8 : decode cX11_fillAtoms 8 = .ok (.aload_n 0, 1) := by decide +kernel
theorem dX11_fillAtoms_9 : decode cX11_fillAtoms 9 = .ok (.getfield 86, 3) := by decide +kernel
theorem dX11_fillAtoms_12 : decode cX11_fillAtoms 12 = .ok (.iconst 0, 1) := by decide +kernel
theorem dX11_fillAtoms_13 : decode cX11_fillAtoms 13 = .ok (.aload_n 0, 1) := by decide +kernel
theorem dX11_fillAtoms_14 : decode cX11_fillAtoms 14 = .ok (.getfield 75, 3) := by decide +kernel
theorem dX11_fillAtoms_17 : decode cX11_fillAtoms 17 = .ok (.iconst 3, 1) := by decide +kernel
theorem dX11_fillAtoms_18 : decode cX11_fillAtoms 18 = .ok (.invokevirtual 218, 3) := by decide +kernel
theorem dX11_fillAtoms_21 : decode cX11_fillAtoms 21 = .ok (.i2l, 1) := by decide +kernel
theorem dX11_fillAtoms_22 : decode cX11_fillAtoms 22 = .ok (.lastore, 1) := by decide +kernel
theorem dX11_fillAtoms_23 : decode cX11_fillAtoms 23 = .ok (.aload_n 0, 1) := by decide +kernel
theorem dX11_fillAtoms_24 : decode cX11_fillAtoms 24 = .ok (.getfield 86, 3) := by decide +kernel
theorem dX11_fillAtoms_27 : decode cX11_fillAtoms 27 = .ok (.iconst 1, 1) := by decide +kernel
theorem dX11_fillAtoms_28 : decode cX11_fillAtoms 28 = .ok (.aload_n 0, 1) := by decide +kernel
theorem dX11_fillAtoms_29 : decode cX11_fillAtoms 29 = .ok (.getfield 75, 3) := by decide +kernel
theorem dX11_fillAtoms_32 : decode cX11_fillAtoms 32 = .ok (.invokevirtual 233, 3) := by decide +kernel
theorem dX11_fillAtoms_35 : decode cX11_fillAtoms 35 = .ok (.i2l, 1) := by decide +kernel
theorem dX11_fillAtoms_36 : decode cX11_fillAtoms 36 = .ok (.lastore, 1) := by decide +kernel
theorem dX11_fillAtoms_37 : decode cX11_fillAtoms 37 = .ok (.aload_n 0, 1) := by decide +kernel
theorem dX11_fillAtoms_38 : decode cX11_fillAtoms 38 = .ok (.getfield 86, 3) := by decide +kernel
theorem dX11_fillAtoms_41 : decode cX11_fillAtoms 41 = .ok (.iconst 2, 1) := by decide +kernel
theorem dX11_fillAtoms_42 : decode cX11_fillAtoms 42 = .ok (.aload_n 0, 1) := by decide +kernel
theorem dX11_fillAtoms_43 : decode cX11_fillAtoms 43 = .ok (.getfield 75, 3) := by decide +kernel
theorem dX11_fillAtoms_46 : decode cX11_fillAtoms 46 = .ok (.aload_n 0, 1) := by decide +kernel
theorem dX11_fillAtoms_47 : decode cX11_fillAtoms 47 = .ok (.getfield 75, 3) := by decide +kernel
theorem dX11_fillAtoms_50 : decode cX11_fillAtoms 50 = .ok (.getfield 354, 3) := by decide +kernel
theorem dX11_fillAtoms_53 : decode cX11_fillAtoms 53 = .ok (.invokevirtual 211, 3) := by decide +kernel
theorem dX11_fillAtoms_56 : decode cX11_fillAtoms 56 = .ok (.i2l, 1) := by decide +kernel
theorem dX11_fillAtoms_57 : decode cX11_fillAtoms 57 = .ok (.lastore, 1) := by decide +kernel
theorem dX11_fillAtoms_58 : decode cX11_fillAtoms 58 = .ok (.aload_n 0, 1) := by decide +kernel
theorem dX11_fillAtoms_59 : decode cX11_fillAtoms 59 = .ok (.getfield 86, 3) := by decide +kernel
theorem dX11_fillAtoms_62 : decode cX11_fillAtoms 62 = .ok (.iconst 3, 1) := by decide +kernel
theorem dX11_fillAtoms_63 : decode cX11_fillAtoms 63 = .ok (.aload_n 0, 1) := by decide +kernel
theorem dX11_fillAtoms_64 : decode cX11_fillAtoms 64 = .ok (.getfield 75, 3) := by decide +kernel
theorem dX11_fillAtoms_67 : decode cX11_fillAtoms 67 = .ok (.aload_n 0, 1) := by decide +kernel
theorem dX11_fillAtoms_68 : decode cX11_fillAtoms 68 = .ok (.getfield 75, 3) := by decide +kernel
theorem dX11_fillAtoms_71 : decode cX11_fillAtoms 71 = .ok (.getfield 357, 3) := by decide +kernel
theorem dX11_fillAtoms_74 : decode cX11_fillAtoms 74 = .ok (.invokevirtual 211, 3) := by decide +kernel
theorem dX11_fillAtoms_77 : decode cX11_fillAtoms 77 = .ok (.i2l, 1) := by decide +kernel
theorem dX11_fillAtoms_78 : decode cX11_fillAtoms 78 = .ok (.lastore, 1) := by decide +kernel
theorem dX11_fillAtoms_79 : decode cX11_fillAtoms 79 = .ok (.aload_n 0, 1) := by decide +kernel
theorem dX11_fillAtoms_80 : decode cX11_fillAtoms 80 = .ok (.getfield 86, 3) := by decide +kernel
theorem dX11_fillAtoms_83 : decode cX11_fillAtoms 83 = .ok (.iconst 4, 1) := by decide +kernel
theorem dX11_fillAtoms_84 : decode cX11_fillAtoms 84 = .ok (.aload_n 0, 1) := by decide +kernel
theorem dX11_fillAtoms_85 : decode cX11_fillAtoms 85 = .ok (.getfield 75, 3) := by decide +kernel
theorem dX11_fillAtoms_88 : decode cX11_fillAtoms 88 = .ok (.getfield 360, 3) := by decide +kernel
theorem dX11_fillAtoms_91 : decode cX11_fillAtoms 91 = .ok (.i2l, 1) := by decide +kernel
theorem dX11_fillAtoms_92 : decode cX11_fillAtoms 92 = .ok (.lastore, 1) := by decide +kernel
theorem dX11_fillAtoms_93 : decode cX11_fillAtoms 93 = .ok (.aload_n 0, 1) := by decide +kernel
theorem dX11_fillAtoms_94 : decode cX11_fillAtoms 94 = .ok (.getfield 86, 3) := by decide +kernel
theorem dX11_fillAtoms_97 : decode cX11_fillAtoms 97 = .ok (.iconst 5, 1) := by decide +kernel
theorem dX11_fillAtoms_98 : decode cX11_fillAtoms 98 = .ok (.aload_n 0, 1) := by decide +kernel
theorem dX11_fillAtoms_99 : decode cX11_fillAtoms 99 = .ok (.getfield 75, 3) := by decide +kernel
theorem dX11_fillAtoms_102 : decode cX11_fillAtoms 102 = .ok (.getfield 363, 3) := by decide +kernel
theorem dX11_fillAtoms_105 : decode cX11_fillAtoms 105 = .ok (.i2l, 1) := by decide +kernel
theorem dX11_fillAtoms_106 : decode cX11_fillAtoms 106 = .ok (.lastore, 1) := by decide +kernel
theorem dX11_fillAtoms_107 : decode cX11_fillAtoms 107 = .ok (.aload_n 0, 1) := by decide +kernel
theorem dX11_fillAtoms_108 : decode cX11_fillAtoms 108 = .ok (.getfield 86, 3) := by decide +kernel
theorem dX11_fillAtoms_111 : decode cX11_fillAtoms 111 = .ok (.bipush 6, 2) := by decide +kernel
theorem dX11_fillAtoms_113 : decode cX11_fillAtoms 113 = .ok (.iload_n 1, 1) := by decide +kernel
theorem dX11_fillAtoms_114 : decode cX11_fillAtoms 114 = .ok (.invokestatic 366, 3) := by decide +kernel
theorem dX11_fillAtoms_117 : decode cX11_fillAtoms 117 = .ok (.i2l, 1) := by decide +kernel
theorem dX11_fillAtoms_118 : decode cX11_fillAtoms 118 = .ok (.lastore, 1) := by decide +kernel
theorem dX11_fillAtoms_119 : decode cX11_fillAtoms 119 = .ok (.return_, 1) := by decide +kernel
theorem dX2_pop_0 : decode cX2_pop 0 = .ok (.aload_n 0, 1) := by decide +kernel
theorem dX2_pop_1 : decode cX2_pop 1 = .ok (.getfield 35, 3) := by decide +kernel
theorem dX2_pop_4 : decode cX2_pop 4 = .ok (.ifCond .gt 5, 3) := by decide +kernel
theorem dX2_pop_7 : decode cX2_pop 7 = .ok (.lconst 0, 1) := by decide +kernel
theorem dX2_pop_8 : decode cX2_pop 8 = .ok (.lreturn, 1) := by decide +kernel
theorem dX2_pop_9 : decode cX2_pop 9 = .ok (.aload_n 0, 1) := by decide +kernel
theorem dX2_pop_10 : decode cX2_pop 10 = .ok (.dup, 1) := by decide +kernel
theorem dX2_pop_11 : decode cX2_pop 11 = .ok (.getfield 35, 3) := by decide +kernel
theorem dX2_pop_14 : decode cX2_pop 14 = .ok (.iconst 1, 1) := by decide +kernel
theorem dX2_pop_15 : decode cX2_pop 15 = .ok (.isub, 1) := by decide +kernel
theorem dX2_pop_16 : decode cX2_pop 16 = .ok (.putfield 35, 3) := by decide +kernel
theorem dX2_pop_19 : decode cX2_pop 19 = .ok (.aload_n 0, 1) := by decide +kernel
theorem dX2_pop_20 : decode cX2_pop 20 = .ok (.getfield 31, 3) := by decide +kernel
theorem dX2_pop_23 : decode cX2_pop 23 = .ok (.aload_n 0, 1) := by decide +kernel
theorem dX2_pop_24 : decode cX2_pop 24 = .ok (.getfield 35, 3) := by decide +kernel
theorem dX2_pop_27 : decode cX2_pop 27 = .ok (.laload, 1) := by decide +kernel
theorem dX2_pop_28 : decode cX2_pop 28 = .ok (.lreturn, 1) := by decide +kernel
theorem dX2_bounded_0 : decode cX2_bounded 0 = .ok (.ldc2_w 54, 3) := by decide +kernel
theorem dX2_bounded_3 : decode cX2_bounded 3 = .ok (.ldc2_w 56, 3) := by decide +kernel
theorem dX2_bounded_6 : decode cX2_bounded 6 = .ok (.lload_n 0, 1) := by decide +kernel
theorem dX2_bounded_7 : decode cX2_bounded 7 = .ok (.invokestatic 58, 3) := by decide +kernel
theorem dX2_bounded_10 : decode cX2_bounded 10 = .ok (.invokestatic 64, 3) := by decide +kernel
theorem dX2_bounded_13 : decode cX2_bounded 13 = .ok (.lreturn, 1) := by decide +kernel
theorem dX2_push_0 : decode cX2_push 0 = .ok (.aload_n 0, 1) := by decide +kernel
theorem dX2_push_1 : decode cX2_push 1 = .ok (.getfield 35, 3) := by decide +kernel
theorem dX2_push_4 : decode cX2_push 4 = .ok (.bipush 64, 2) := by decide +kernel
theorem dX2_push_6 : decode cX2_push 6 = .ok (.if_icmp .ge 23, 3) := by decide +kernel
theorem dX2_push_9 : decode cX2_push 9 = .ok (.aload_n 0, 1) := by decide +kernel
theorem dX2_push_10 : decode cX2_push 10 = .ok (.getfield 31, 3) := by decide +kernel
theorem dX2_push_13 : decode cX2_push 13 = .ok (.aload_n 0, 1) := by decide +kernel
theorem dX2_push_14 : decode cX2_push 14 = .ok (.getfield 35, 3) := by decide +kernel
theorem dX2_push_17 : decode cX2_push 17 = .ok (.lload_n 1, 1) := by decide +kernel
theorem dX2_push_18 : decode cX2_push 18 = .ok (.lastore, 1) := by decide +kernel
theorem dX2_push_19 : decode cX2_push 19 = .ok (.aload_n 0, 1) := by decide +kernel
theorem dX2_push_20 : decode cX2_push 20 = .ok (.dup, 1) := by decide +kernel
theorem dX2_push_21 : decode cX2_push 21 = .ok (.getfield 35, 3) := by decide +kernel
theorem dX2_push_24 : decode cX2_push 24 = .ok (.iconst 1, 1) := by decide +kernel
theorem dX2_push_25 : decode cX2_push 25 = .ok (.iadd, 1) := by decide +kernel
theorem dX2_push_26 : decode cX2_push 26 = .ok (.putfield 35, 3) := by decide +kernel
theorem dX2_push_29 : decode cX2_push 29 = .ok (.return_, 1) := by decide +kernel
theorem dX2_applies_0 : decode cX2_applies 0 = .ok (.aload_n 0, 1) := by decide +kernel
theorem dX2_applies_1 : decode cX2_applies 1 = .ok (.invokevirtual 46, 3) := by decide +kernel
theorem dX2_applies_4 : decode cX2_applies 4 = .ok (.lstore_n 2, 1) := by decide +kernel
theorem dX2_applies_5 : decode cX2_applies 5 = .ok (.aload_n 0, 1) := by decide +kernel
theorem dX2_applies_6 : decode cX2_applies 6 = .ok (.invokevirtual 46, 3) := by decide +kernel
theorem dX2_applies_9 : decode cX2_applies 9 = .ok (.lstore 4, 2) := by decide +kernel
theorem dX2_applies_11 : decode cX2_applies 11 = .ok (.iload_n 1, 1) := by decide +kernel
theorem dX2_applies_12 : decode cX2_applies 12 = .ok (.lookupswitch 96 #[(42, 70), (43, 44), (45, 57), (60, 83)], 44) := by decide +kernel
theorem dX2_applies_56 : decode cX2_applies 56 = .ok (.aload_n 0, 1) := by decide +kernel
theorem dX2_applies_57 : decode cX2_applies 57 = .ok (.lload 4, 2) := by decide +kernel
theorem dX2_applies_59 : decode cX2_applies 59 = .ok (.lload_n 2, 1) := by decide +kernel
theorem dX2_applies_60 : decode cX2_applies 60 = .ok (.ladd, 1) := by decide +kernel
theorem dX2_applies_61 : decode cX2_applies 61 = .ok (.invokestatic 50, 3) := by decide +kernel
theorem dX2_applies_64 : decode cX2_applies 64 = .ok (.invokevirtual 38, 3) := by decide +kernel
theorem dX2_applies_67 : decode cX2_applies 67 = .ok (.iconst 1, 1) := by decide +kernel
theorem dX2_applies_68 : decode cX2_applies 68 = .ok (.ireturn, 1) := by decide +kernel
theorem dX2_applies_69 : decode cX2_applies 69 = .ok (.aload_n 0, 1) := by decide +kernel
theorem dX2_applies_70 : decode cX2_applies 70 = .ok (.lload 4, 2) := by decide +kernel
theorem dX2_applies_72 : decode cX2_applies 72 = .ok (.lload_n 2, 1) := by decide +kernel
theorem dX2_applies_73 : decode cX2_applies 73 = .ok (.lsub, 1) := by decide +kernel
theorem dX2_applies_74 : decode cX2_applies 74 = .ok (.invokestatic 50, 3) := by decide +kernel
theorem dX2_applies_77 : decode cX2_applies 77 = .ok (.invokevirtual 38, 3) := by decide +kernel
theorem dX2_applies_80 : decode cX2_applies 80 = .ok (.iconst 1, 1) := by decide +kernel
theorem dX2_applies_81 : decode cX2_applies 81 = .ok (.ireturn, 1) := by decide +kernel
theorem dX2_applies_82 : decode cX2_applies 82 = .ok (.aload_n 0, 1) := by decide +kernel
theorem dX2_applies_83 : decode cX2_applies 83 = .ok (.lload 4, 2) := by decide +kernel
theorem dX2_applies_85 : decode cX2_applies 85 = .ok (.lload_n 2, 1) := by decide +kernel
theorem dX2_applies_86 : decode cX2_applies 86 = .ok (.lmul, 1) := by decide +kernel
theorem dX2_applies_87 : decode cX2_applies 87 = .ok (.invokestatic 50, 3) := by decide +kernel
theorem dX2_applies_90 : decode cX2_applies 90 = .ok (.invokevirtual 38, 3) := by decide +kernel
theorem dX2_applies_93 : decode cX2_applies 93 = .ok (.iconst 1, 1) := by decide +kernel
theorem dX2_applies_94 : decode cX2_applies 94 = .ok (.ireturn, 1) := by decide +kernel
theorem dX2_applies_95 : decode cX2_applies 95 = .ok (.lload 4, 2) := by decide +kernel
theorem dX2_applies_97 : decode cX2_applies 97 = .ok (.lload_n 2, 1) := by decide +kernel
theorem dX2_applies_98 : decode cX2_applies 98 = .ok (.lcmp, 1) := by decide +kernel
theorem dX2_applies_99 : decode cX2_applies 99 = .ok (.ifCond .ge 7, 3) := by decide +kernel
theorem dX2_applies_102 : decode cX2_applies 102 = .ok (.iconst 1, 1) := by decide +kernel
theorem dX2_applies_103 : decode cX2_applies 103 = .ok (.goto 4, 3) := by decide +kernel
theorem dX2_applies_106 : decode cX2_applies 106 = .ok (.iconst 0, 1) := by decide +kernel
theorem dX2_applies_107 : decode cX2_applies 107 = .ok (.ireturn, 1) := by decide +kernel
theorem dX2_applies_108 : decode cX2_applies 108 = .ok (.lload 4, 2) := by decide +kernel
theorem dX2_applies_110 : decode cX2_applies 110 = .ok (.lload_n 2, 1) := by decide +kernel
theorem dX2_applies_111 : decode cX2_applies 111 = .ok (.lcmp, 1) := by decide +kernel
theorem dX2_applies_112 : decode cX2_applies 112 = .ok (.ifCond .ne 7, 3) := by decide +kernel
theorem dX2_applies_115 : decode cX2_applies 115 = .ok (.iconst 1, 1) := by decide +kernel
theorem dX2_applies_116 : decode cX2_applies 116 = .ok (.goto 4, 3) := by decide +kernel
theorem dX2_applies_119 : decode cX2_applies 119 = .ok (.iconst 0, 1) := by decide +kernel
theorem dX2_applies_120 : decode cX2_applies 120 = .ok (.ireturn, 1) := by decide +kernel
theorem dX2_holds_0 : decode cX2_holds 0 = .ok (.aload_n 0, 1) := by decide +kernel
theorem dX2_holds_1 : decode cX2_holds 1 = .ok (.iconst 0, 1) := by decide +kernel
theorem dX2_holds_2 : decode cX2_holds 2 = .ok (.putfield 35, 3) := by decide +kernel
theorem dX2_holds_5 : decode cX2_holds 5 = .ok (.aload_n 0, 1) := by decide +kernel
theorem dX2_holds_6 : decode cX2_holds 6 = .ok (.getfield 19, 3) := by decide +kernel
theorem dX2_holds_9 : decode cX2_holds 9 = .ok (.iload_n 1, 1) := by decide +kernel
theorem dX2_holds_10 : decode cX2_holds 10 = .ok (.iaload, 1) := by decide +kernel
theorem dX2_holds_11 : decode cX2_holds 11 = .ok (.istore_n 3, 1) := by decide +kernel
theorem dX2_holds_12 : decode cX2_holds 12 = .ok (.iload_n 3, 1) := by decide +kernel
theorem dX2_holds_13 : decode cX2_holds 13 = .ok (.aload_n 0, 1) := by decide +kernel
theorem dX2_holds_14 : decode cX2_holds 14 = .ok (.getfield 22, 3) := by decide +kernel
theorem dX2_holds_17 : decode cX2_holds 17 = .ok (.iload_n 1, 1) := by decide +kernel
theorem dX2_holds_18 : decode cX2_holds 18 = .ok (.iaload, 1) := by decide +kernel
theorem dX2_holds_19 : decode cX2_holds 19 = .ok (.if_icmp .ge 88, 3) := by decide +kernel
theorem dX2_holds_22 : decode cX2_holds 22 = .ok (.aload_n 0, 1) := by decide +kernel
theorem dX2_holds_23 : decode cX2_holds 23 = .ok (.getfield 25, 3) := by decide +kernel
theorem dX2_holds_26 : decode cX2_holds 26 = .ok (.iload_n 3, 1) := by decide +kernel
theorem dX2_holds_27 : decode cX2_holds 27 = .ok (.iaload, 1) := by decide +kernel
theorem dX2_holds_28 : decode cX2_holds 28 = .ok (.istore 4, 2) := by decide +kernel
theorem dX2_holds_30 : decode cX2_holds 30 = .ok (.iload 4, 2) := by decide +kernel
theorem dX2_holds_32 : decode cX2_holds 32 = .ok (.sipush 10000, 3) := by decide +kernel
theorem dX2_holds_35 : decode cX2_holds 35 = .ok (.if_icmp .ge 13, 3) := by decide +kernel
theorem dX2_holds_38 : decode cX2_holds 38 = .ok (.aload_n 0, 1) := by decide +kernel
theorem dX2_holds_39 : decode cX2_holds 39 = .ok (.iload 4, 2) := by decide +kernel
theorem dX2_holds_41 : decode cX2_holds 41 = .ok (.i2l, 1) := by decide +kernel
theorem dX2_holds_42 : decode cX2_holds 42 = .ok (.invokevirtual 38, 3) := by decide +kernel
theorem dX2_holds_45 : decode cX2_holds 45 = .ok (.goto 56, 3) := by decide +kernel
theorem dX2_holds_48 : decode cX2_holds 48 = .ok (.iload 4, 2) := by decide +kernel
theorem dX2_holds_50 : decode cX2_holds 50 = .ok (.sipush 20000, 3) := by decide +kernel
theorem dX2_holds_53 : decode cX2_holds 53 = .ok (.if_icmp .ge 33, 3) := by decide +kernel
theorem dX2_holds_56 : decode cX2_holds 56 = .ok (.iload 4, 2) := by decide +kernel
theorem dX2_holds_58 : decode cX2_holds 58 = .ok (.sipush 10000, 3) := by decide +kernel
theorem dX2_holds_61 : decode cX2_holds 61 = .ok (.isub, 1) := by decide +kernel
theorem dX2_holds_62 : decode cX2_holds 62 = .ok (.istore 5, 2) := by decide +kernel
theorem dX2_holds_64 : decode cX2_holds 64 = .ok (.aload_n 0, 1) := by decide +kernel
theorem dX2_holds_65 : decode cX2_holds 65 = .ok (.iload 5, 2) := by decide +kernel
theorem dX2_holds_67 : decode cX2_holds 67 = .ok (.aload_n 2, 1) := by decide +kernel
theorem dX2_holds_68 : decode cX2_holds 68 = .ok (.arraylength, 1) := by decide +kernel
theorem dX2_holds_69 : decode cX2_holds 69 = .ok (.if_icmp .ge 10, 3) := by decide +kernel
theorem dX2_holds_72 : decode cX2_holds 72 = .ok (.aload_n 2, 1) := by decide +kernel
theorem dX2_holds_73 : decode cX2_holds 73 = .ok (.iload 5, 2) := by decide +kernel
theorem dX2_holds_75 : decode cX2_holds 75 = .ok (.laload, 1) := by decide +kernel
theorem dX2_holds_76 : decode cX2_holds 76 = .ok (.goto 4, 3) := by decide +kernel
theorem dX2_holds_79 : decode cX2_holds 79 = .ok (.lconst 0, 1) := by decide +kernel
theorem dX2_holds_80 : decode cX2_holds 80 = .ok (.invokevirtual 38, 3) := by decide +kernel
theorem dX2_holds_83 : decode cX2_holds 83 = .ok (.goto 18, 3) := by decide +kernel
theorem dX2_holds_86 : decode cX2_holds 86 = .ok (.aload_n 0, 1) := by decide +kernel
theorem dX2_holds_87 : decode cX2_holds 87 = .ok (.iload 4, 2) := by decide +kernel
theorem dX2_holds_89 : decode cX2_holds 89 = .ok (.sipush 20000, 3) := by decide +kernel
theorem dX2_holds_92 : decode cX2_holds 92 = .ok (.isub, 1) := by decide +kernel
theorem dX2_holds_93 : decode cX2_holds 93 = .ok (.invokevirtual 42, 3) := by decide +kernel
theorem dX2_holds_96 : decode cX2_holds 96 = .ok (.ifCond .ne 5, 3) := by decide +kernel
theorem dX2_holds_99 : decode cX2_holds 99 = .ok (.iconst 0, 1) := by decide +kernel
theorem dX2_holds_100 : decode cX2_holds 100 = .ok (.ireturn, 1) := by decide +kernel
theorem dX2_holds_101 : decode cX2_holds 101 = .ok (.iinc 3 1, 3) := by decide +kernel
theorem dX2_holds_104 : decode cX2_holds 104 = .ok (.goto (-92), 3) := by decide +kernel
theorem dX2_holds_107 : decode cX2_holds 107 = .ok (.iconst 1, 1) := by decide +kernel
theorem dX2_holds_108 : decode cX2_holds 108 = .ok (.ireturn, 1) := by decide +kernel
theorem dX11_called_0 : decode cX11_called 0 = .ok (.iload 4, 2) := by decide +kernel
theorem dX11_called_2 : decode cX11_called 2 = .ok (.ifCond .eq 9, 3) := by decide +kernel
theorem dX11_called_5 : decode cX11_called 5 = .ok (.iload 4, 2) := by decide +kernel
theorem dX11_called_7 : decode cX11_called 7 = .ok (.iconst 1, 1) := by decide +kernel
theorem dX11_called_8 : decode cX11_called 8 = .ok (.if_icmp .ne 13, 3) := by decide +kernel
theorem dX11_called_11 : decode cX11_called 11 = .ok (.aload_n 0, 1) := by decide +kernel
theorem dX11_called_12 : decode cX11_called 12 = .ok (.iload_n 1, 1) := by decide +kernel
theorem dX11_called_13 : decode cX11_called 13 = .ok (.iload_n 2, 1) := by decide +kernel
theorem dX11_called_14 : decode cX11_called 14 = .ok (.iload_n 3, 1) := by decide +kernel
theorem dX11_called_15 : decode cX11_called 15 = .ok (.invokevirtual 225, 3) := by decide +kernel
theorem dX11_called_18 : decode cX11_called 18 = .ok (.ifCond .ne 5, 3) := by decide +kernel
theorem dX11_called_21 : decode cX11_called 21 = .ok (.iconst (-1), 1) := by decide +kernel
theorem dX11_called_22 : decode cX11_called 22 = .ok (.ireturn, 1) := by decide +kernel
theorem dX11_called_23 : decode cX11_called 23 = .ok (.aload_n 0, 1) := by decide +kernel
theorem dX11_called_24 : decode cX11_called 24 = .ok (.iload_n 1, 1) := by decide +kernel
theorem dX11_called_25 : decode cX11_called 25 = .ok (.iload_n 2, 1) := by decide +kernel
theorem dX11_called_26 : decode cX11_called 26 = .ok (.iload_n 3, 1) := by decide +kernel
theorem dX11_called_27 : decode cX11_called 27 = .ok (.invokevirtual 229, 3) := by decide +kernel
theorem dX11_called_30 : decode cX11_called 30 = .ok (.aload_n 0, 1) := by decide +kernel
theorem dX11_called_31 : decode cX11_called 31 = .ok (.iload_n 3, 1) := by decide +kernel
theorem dX11_called_32 : decode cX11_called 32 = .ok (.invokevirtual 321, 3) := by decide +kernel
theorem dX11_called_35 : decode cX11_called 35 = .ok (.iconst 0, 1) := by decide +kernel
theorem dX11_called_36 : decode cX11_called 36 = .ok (.istore 5, 2) := by decide +kernel
theorem dX11_called_38 : decode cX11_called 38 = .ok (.iload 5, 2) := by decide +kernel
theorem dX11_called_40 : decode cX11_called 40 = .ok (.aload_n 0, 1) := by decide +kernel
theorem dX11_called_41 : decode cX11_called 41 = .ok (.getfield 45, 3) := by decide +kernel
theorem dX11_called_44 : decode cX11_called 44 = .ok (.getfield 139, 3) := by decide +kernel
theorem dX11_called_47 : decode cX11_called 47 = .ok (.if_icmp .ge 46, 3) := by decide +kernel
theorem dX11_called_50 : decode cX11_called 50 = .ok (.aload_n 0, 1) := by decide +kernel
theorem dX11_called_51 : decode cX11_called 51 = .ok (.getfield 45, 3) := by decide +kernel
theorem dX11_called_54 : decode cX11_called 54 = .ok (.iload 5, 2) := by decide +kernel
theorem dX11_called_56 : decode cX11_called 56 = .ok (.aload_n 0, 1) := by decide +kernel
theorem dX11_called_57 : decode cX11_called 57 = .ok (.getfield 86, 3) := by decide +kernel
theorem dX11_called_60 : decode cX11_called 60 = .ok (.invokevirtual 324, 3) := by decide +kernel
theorem dX11_called_63 : decode cX11_called 63 = .ok (.ifCond .eq 24, 3) := by decide +kernel
theorem dX11_called_66 : decode cX11_called 66 = .ok (.iload 4, 2) := by decide +kernel
theorem dX11_called_68 : decode cX11_called 68 = .ok (.ifCond .ne 16, 3) := by decide +kernel
theorem dX11_called_71 : decode cX11_called 71 = .ok (.aload_n 0, 1) := by decide +kernel
theorem dX11_called_72 : decode cX11_called 72 = .ok (.getfield 45, 3) := by decide +kernel
theorem dX11_called_75 : decode cX11_called 75 = .ok (.getfield 328, 3) := by decide +kernel
theorem dX11_called_78 : decode cX11_called 78 = .ok (.iload 5, 2) := by decide +kernel
theorem dX11_called_80 : decode cX11_called 80 = .ok (.iaload, 1) := by decide +kernel
theorem dX11_called_81 : decode cX11_called 81 = .ok (.goto 5, 3) := by decide +kernel
theorem dX11_called_84 : decode cX11_called 84 = .ok (.iload 5, 2) := by decide +kernel
theorem dX11_called_86 : decode cX11_called 86 = .ok (.ireturn, 1) := by decide +kernel
theorem dX11_called_87 : decode cX11_called 87 = .ok (.iinc 5 1, 3) := by decide +kernel
theorem dX11_called_90 : decode cX11_called 90 = .ok (.goto (-52), 3) := by decide +kernel
theorem dX11_called_93 : decode cX11_called 93 = .ok (.iconst (-1), 1) := by decide +kernel
theorem dX11_called_94 : decode cX11_called 94 = .ok (.ireturn, 1) := by decide +kernel
theorem dX11_lotBelow_0 : decode cX11_lotBelow 0 = .ok (.aload_n 0, 1) := by decide +kernel
theorem dX11_lotBelow_1 : decode cX11_lotBelow 1 = .ok (.aload_n 0, 1) := by decide +kernel
theorem dX11_lotBelow_2 : decode cX11_lotBelow 2 = .ok (.getfield 107, 3) := by decide +kernel
theorem dX11_lotBelow_5 : decode cX11_lotBelow 5 = .ok (.ldc2_w 384, 3) := by decide +kernel
theorem dX11_lotBelow_8 : decode cX11_lotBelow 8 = .ok (.lmul, 1) := by decide +kernel
theorem dX11_lotBelow_9 : decode cX11_lotBelow 9 = .ok (.ldc2_w 386, 3) := by decide +kernel
theorem dX11_lotBelow_12 : decode cX11_lotBelow 12 = .ok (.ladd, 1) := by decide +kernel
theorem dX11_lotBelow_13 : decode cX11_lotBelow 13 = .ok (.ldc2_w 388, 3) := by decide +kernel
theorem dX11_lotBelow_16 : decode cX11_lotBelow 16 = .ok (.land, 1) := by decide +kernel
theorem dX11_lotBelow_17 : decode cX11_lotBelow 17 = .ok (.putfield 107, 3) := by decide +kernel
theorem dX11_lotBelow_20 : decode cX11_lotBelow 20 = .ok (.lload_n 1, 1) := by decide +kernel
theorem dX11_lotBelow_21 : decode cX11_lotBelow 21 = .ok (.lconst 0, 1) := by decide +kernel
theorem dX11_lotBelow_22 : decode cX11_lotBelow 22 = .ok (.lcmp, 1) := by decide +kernel
theorem dX11_lotBelow_23 : decode cX11_lotBelow 23 = .ok (.ifCond .gt 7, 3) := by decide +kernel
theorem dX11_lotBelow_26 : decode cX11_lotBelow 26 = .ok (.iconst 0, 1) := by decide +kernel
theorem dX11_lotBelow_27 : decode cX11_lotBelow 27 = .ok (.goto 14, 3) := by decide +kernel
theorem dX11_lotBelow_30 : decode cX11_lotBelow 30 = .ok (.aload_n 0, 1) := by decide +kernel
theorem dX11_lotBelow_31 : decode cX11_lotBelow 31 = .ok (.getfield 107, 3) := by decide +kernel
theorem dX11_lotBelow_34 : decode cX11_lotBelow 34 = .ok (.ldc2_w 390, 3) := by decide +kernel
theorem dX11_lotBelow_37 : decode cX11_lotBelow 37 = .ok (.ldiv, 1) := by decide +kernel
theorem dX11_lotBelow_38 : decode cX11_lotBelow 38 = .ok (.lload_n 1, 1) := by decide +kernel
theorem dX11_lotBelow_39 : decode cX11_lotBelow 39 = .ok (.lrem, 1) := by decide +kernel
theorem dX11_lotBelow_40 : decode cX11_lotBelow 40 = .ok (.l2i, 1) := by decide +kernel
theorem dX11_lotBelow_41 : decode cX11_lotBelow 41 = .ok (.ireturn, 1) := by decide +kernel
theorem dX10_saidAt_0 : decode cX10_saidAt 0 = .ok (.lconst 0, 1) := by decide +kernel
theorem dX10_saidAt_1 : decode cX10_saidAt 1 = .ok (.lstore_n 3, 1) := by decide +kernel
theorem dX10_saidAt_2 : decode cX10_saidAt 2 = .ok (.iconst 0, 1) := by decide +kernel
theorem dX10_saidAt_3 : decode cX10_saidAt 3 = .ok (.istore 5, 2) := by decide +kernel
theorem dX10_saidAt_5 : decode cX10_saidAt 5 = .ok (.iload 5, 2) := by decide +kernel
theorem dX10_saidAt_7 : decode cX10_saidAt 7 = .ok (.aload_n 0, 1) := by decide +kernel
theorem dX10_saidAt_8 : decode cX10_saidAt 8 = .ok (.getfield 59, 3) := by decide +kernel
theorem dX10_saidAt_11 : decode cX10_saidAt 11 = .ok (.getfield 79, 3) := by decide +kernel
theorem dX10_saidAt_14 : decode cX10_saidAt 14 = .ok (.if_icmp .ge 28, 3) := by decide +kernel
theorem dX10_saidAt_17 : decode cX10_saidAt 17 = .ok (.lload_n 3, 1) := by decide +kernel
theorem dX10_saidAt_18 : decode cX10_saidAt 18 = .ok (.aload_n 0, 1) := by decide +kernel
theorem dX10_saidAt_19 : decode cX10_saidAt 19 = .ok (.getfield 50, 3) := by decide +kernel
theorem dX10_saidAt_22 : decode cX10_saidAt 22 = .ok (.iload 5, 2) := by decide +kernel
theorem dX10_saidAt_24 : decode cX10_saidAt 24 = .ok (.laload, 1) := by decide +kernel
theorem dX10_saidAt_25 : decode cX10_saidAt 25 = .ok (.ladd, 1) := by decide +kernel
theorem dX10_saidAt_26 : decode cX10_saidAt 26 = .ok (.lstore_n 3, 1) := by decide +kernel
theorem dX10_saidAt_27 : decode cX10_saidAt 27 = .ok (.lload_n 3, 1) := by decide +kernel
theorem dX10_saidAt_28 : decode cX10_saidAt 28 = .ok (.lload_n 1, 1) := by decide +kernel
theorem dX10_saidAt_29 : decode cX10_saidAt 29 = .ok (.lcmp, 1) := by decide +kernel
theorem dX10_saidAt_30 : decode cX10_saidAt 30 = .ok (.ifCond .le 6, 3) := by decide +kernel
theorem dX10_saidAt_33 : decode cX10_saidAt 33 = .ok (.iload 5, 2) := by decide +kernel
theorem dX10_saidAt_35 : decode cX10_saidAt 35 = .ok (.ireturn, 1) := by decide +kernel
theorem dX10_saidAt_36 : decode cX10_saidAt 36 = .ok (.iinc 5 1, 3) := by decide +kernel
theorem dX10_saidAt_39 : decode cX10_saidAt 39 = .ok (.goto (-34), 3) := by decide +kernel
theorem dX10_saidAt_42 : decode cX10_saidAt 42 = .ok (.iconst 0, 1) := by decide +kernel
theorem dX10_saidAt_43 : decode cX10_saidAt 43 = .ok (.ireturn, 1) := by decide +kernel
theorem dX11_drawAnswer_0 : decode cX11_drawAnswer 0 = .ok (.aload_n 0, 1) := by decide +kernel
theorem dX11_drawAnswer_1 : decode cX11_drawAnswer 1 = .ok (.aload_n 0, 1) := by decide +kernel
theorem dX11_drawAnswer_2 : decode cX11_drawAnswer 2 = .ok (.getfield 35, 3) := by decide +kernel
theorem dX11_drawAnswer_5 : decode cX11_drawAnswer 5 = .ok (.getfield 136, 3) := by decide +kernel
theorem dX11_drawAnswer_8 : decode cX11_drawAnswer 8 = .ok (.i2l, 1) := by decide +kernel
theorem dX11_drawAnswer_9 : decode cX11_drawAnswer 9 = .ok (.invokevirtual 392, 3) := by decide +kernel
theorem dX11_drawAnswer_12 : decode cX11_drawAnswer 12 = .ok (.istore_n 3, 1) := by decide +kernel
theorem dX11_drawAnswer_13 : decode cX11_drawAnswer 13 = .ok (.aload_n 0, 1) := by decide +kernel
theorem dX11_drawAnswer_14 : decode cX11_drawAnswer 14 = .ok (.aload_n 0, 1) := by decide +kernel
theorem dX11_drawAnswer_15 : decode cX11_drawAnswer 15 = .ok (.getfield 35, 3) := by decide +kernel
theorem dX11_drawAnswer_18 : decode cX11_drawAnswer 18 = .ok (.getfield 136, 3) := by decide +kernel
theorem dX11_drawAnswer_21 : decode cX11_drawAnswer 21 = .ok (.i2l, 1) := by decide +kernel
theorem dX11_drawAnswer_22 : decode cX11_drawAnswer 22 = .ok (.invokevirtual 392, 3) := by decide +kernel
theorem dX11_drawAnswer_25 : decode cX11_drawAnswer 25 = .ok (.istore 4, 2) := by decide +kernel
theorem dX11_drawAnswer_27 : decode cX11_drawAnswer 27 = .ok (.aload_n 0, 1) := by decide +kernel
theorem dX11_drawAnswer_28 : decode cX11_drawAnswer 28 = .ok (.ldc2_w 396, 3) := by decide +kernel
theorem dX11_drawAnswer_31 : decode cX11_drawAnswer 31 = .ok (.invokevirtual 392, 3) := by decide +kernel
theorem dX11_drawAnswer_34 : decode cX11_drawAnswer 34 = .ok (.istore 5, 2) := by decide +kernel
theorem dX11_drawAnswer_36 : decode cX11_drawAnswer 36 = .ok (.aload_n 0, 1) := by decide +kernel
theorem dX11_drawAnswer_37 : decode cX11_drawAnswer 37 = .ok (.ldc2_w 396, 3) := by decide +kernel
theorem dX11_drawAnswer_40 : decode cX11_drawAnswer 40 = .ok (.invokevirtual 392, 3) := by decide +kernel
theorem dX11_drawAnswer_43 : decode cX11_drawAnswer 43 = .ok (.istore 6, 2) := by decide +kernel
theorem dX11_drawAnswer_45 : decode cX11_drawAnswer 45 = .ok (.aload_n 0, 1) := by decide +kernel
theorem dX11_drawAnswer_46 : decode cX11_drawAnswer 46 = .ok (.ldc2_w 398, 3) := by decide +kernel
theorem dX11_drawAnswer_49 : decode cX11_drawAnswer 49 = .ok (.invokevirtual 392, 3) := by decide +kernel
theorem dX11_drawAnswer_52 : decode cX11_drawAnswer 52 = .ok (.bipush 99, 2) := by decide +kernel
theorem dX11_drawAnswer_54 : decode cX11_drawAnswer 54 = .ok (.isub, 1) := by decide +kernel
theorem dX11_drawAnswer_55 : decode cX11_drawAnswer 55 = .ok (.istore 7, 2) := by decide +kernel
theorem dX11_drawAnswer_57 : decode cX11_drawAnswer 57 = .ok (.iload_n 2, 1) := by decide +kernel
theorem dX11_drawAnswer_58 : decode cX11_drawAnswer 58 = .ok (.bipush 100, 2) := by decide +kernel
theorem dX11_drawAnswer_60 : decode cX11_drawAnswer 60 = .ok (.imul, 1) := by decide +kernel
theorem dX11_drawAnswer_61 : decode cX11_drawAnswer 61 = .ok (.iload_n 3, 1) := by decide +kernel
theorem dX11_drawAnswer_62 : decode cX11_drawAnswer 62 = .ok (.bipush 10, 2) := by decide +kernel
theorem dX11_drawAnswer_64 : decode cX11_drawAnswer 64 = .ok (.imul, 1) := by decide +kernel
theorem dX11_drawAnswer_65 : decode cX11_drawAnswer 65 = .ok (.iadd, 1) := by decide +kernel
theorem dX11_drawAnswer_66 : decode cX11_drawAnswer 66 = .ok (.iload 4, 2) := by decide +kernel
theorem dX11_drawAnswer_68 : decode cX11_drawAnswer 68 = .ok (.iadd, 1) := by decide +kernel
theorem dX11_drawAnswer_69 : decode cX11_drawAnswer 69 = .ok (.istore 8, 2) := by decide +kernel
theorem dX11_drawAnswer_71 : decode cX11_drawAnswer 71 = .ok (.iload 5, 2) := by decide +kernel
theorem dX11_drawAnswer_73 : decode cX11_drawAnswer 73 = .ok (.bipush 10, 2) := by decide +kernel
theorem dX11_drawAnswer_75 : decode cX11_drawAnswer 75 = .ok (.imul, 1) := by decide +kernel
theorem dX11_drawAnswer_76 : decode cX11_drawAnswer 76 = .ok (.iload 6, 2) := by decide +kernel
theorem dX11_drawAnswer_78 : decode cX11_drawAnswer 78 = .ok (.iadd, 1) := by decide +kernel
theorem dX11_drawAnswer_79 : decode cX11_drawAnswer 79 = .ok (.istore 9, 2) := by decide +kernel
theorem dX11_drawAnswer_81 : decode cX11_drawAnswer 81 = .ok (.aload_n 0, 1) := by decide +kernel
theorem dX11_drawAnswer_82 : decode cX11_drawAnswer 82 = .ok (.iload 8, 2) := by decide +kernel
theorem dX11_drawAnswer_84 : decode cX11_drawAnswer 84 = .ok (.iload 9, 2) := by decide +kernel
theorem dX11_drawAnswer_86 : decode cX11_drawAnswer 86 = .ok (.iload 7, 2) := by decide +kernel
theorem dX11_drawAnswer_88 : decode cX11_drawAnswer 88 = .ok (.invokevirtual 229, 3) := by decide +kernel
theorem dX11_drawAnswer_91 : decode cX11_drawAnswer 91 = .ok (.aload_n 0, 1) := by decide +kernel
theorem dX11_drawAnswer_92 : decode cX11_drawAnswer 92 = .ok (.getfield 75, 3) := by decide +kernel
theorem dX11_drawAnswer_95 : decode cX11_drawAnswer 95 = .ok (.iload_n 1, 1) := by decide +kernel
theorem dX11_drawAnswer_96 : decode cX11_drawAnswer 96 = .ok (.invokevirtual 294, 3) := by decide +kernel
theorem dX11_drawAnswer_99 : decode cX11_drawAnswer 99 = .ok (.aload_n 0, 1) := by decide +kernel
theorem dX11_drawAnswer_100 : decode cX11_drawAnswer 100 = .ok (.getfield 75, 3) := by decide +kernel
theorem dX11_drawAnswer_103 : decode cX11_drawAnswer 103 = .ok (.aload_n 0, 1) := by decide +kernel
theorem dX11_drawAnswer_104 : decode cX11_drawAnswer 104 = .ok (.aload_n 0, 1) := by decide +kernel
theorem dX11_drawAnswer_105 : decode cX11_drawAnswer 105 = .ok (.getfield 75, 3) := by decide +kernel
theorem dX11_drawAnswer_108 : decode cX11_drawAnswer 108 = .ok (.getfield 205, 3) := by decide +kernel
theorem dX11_drawAnswer_111 : decode cX11_drawAnswer 111 = .ok (.invokevirtual 392, 3) := by decide +kernel
theorem dX11_drawAnswer_114 : decode cX11_drawAnswer 114 = .ok (.i2l, 1) := by decide +kernel
theorem dX11_drawAnswer_115 : decode cX11_drawAnswer 115 = .ok (.invokevirtual 400, 3) := by decide +kernel
theorem dX11_drawAnswer_118 : decode cX11_drawAnswer 118 = .ok (.istore 10, 2) := by decide +kernel
theorem dX11_drawAnswer_120 : decode cX11_drawAnswer 120 = .ok (.aload_n 0, 1) := by decide +kernel
theorem dX11_drawAnswer_121 : decode cX11_drawAnswer 121 = .ok (.ldc2_w 339, 3) := by decide +kernel
theorem dX11_drawAnswer_124 : decode cX11_drawAnswer 124 = .ok (.invokevirtual 392, 3) := by decide +kernel
theorem dX11_drawAnswer_127 : decode cX11_drawAnswer 127 = .ok (.aload_n 0, 1) := by decide +kernel
theorem dX11_drawAnswer_128 : decode cX11_drawAnswer 128 = .ok (.getfield 75, 3) := by decide +kernel
theorem dX11_drawAnswer_131 : decode cX11_drawAnswer 131 = .ok (.invokevirtual 233, 3) := by decide +kernel
theorem dX11_drawAnswer_134 : decode cX11_drawAnswer 134 = .ok (.if_icmp .ge 7, 3) := by decide +kernel
theorem dX11_drawAnswer_137 : decode cX11_drawAnswer 137 = .ok (.iconst 1, 1) := by decide +kernel
theorem dX11_drawAnswer_138 : decode cX11_drawAnswer 138 = .ok (.goto 4, 3) := by decide +kernel
theorem dX11_drawAnswer_141 : decode cX11_drawAnswer 141 = .ok (.iconst 0, 1) := by decide +kernel
theorem dX11_drawAnswer_142 : decode cX11_drawAnswer 142 = .ok (.istore 11, 2) := by decide +kernel
theorem dX11_drawAnswer_144 : decode cX11_drawAnswer 144 = .ok (.aload_n 0, 1) := by decide +kernel
theorem dX11_drawAnswer_145 : decode cX11_drawAnswer 145 = .ok (.getfield 24, 3) := by decide +kernel
theorem dX11_drawAnswer_148 : decode cX11_drawAnswer 148 = .ok (.iload 8, 2) := by decide +kernel
theorem dX11_drawAnswer_150 : decode cX11_drawAnswer 150 = .ok (.iload 9, 2) := by decide +kernel
theorem dX11_drawAnswer_152 : decode cX11_drawAnswer 152 = .ok (.iload 7, 2) := by decide +kernel
theorem dX11_drawAnswer_154 : decode cX11_drawAnswer 154 = .ok (.iload 10, 2) := by decide +kernel
theorem dX11_drawAnswer_156 : decode cX11_drawAnswer 156 = .ok (.iload 11, 2) := by decide +kernel
theorem dX11_drawAnswer_158 : decode cX11_drawAnswer 158 = .ok (.invokevirtual 236, 3) := by decide +kernel
theorem dX11_drawAnswer_161 : decode cX11_drawAnswer 161 = .ok (.return_, 1) := by decide +kernel
theorem dX11_draw_0 : decode cX11_draw 0 = .ok (.iload_n 1, 1) := by decide +kernel
theorem dX11_draw_1 : decode cX11_draw 1 = .ok (.invokestatic 262, 3) := by decide +kernel
theorem dX11_draw_4 : decode cX11_draw 4 = .ok (.ifCond .eq 26, 3) := by decide +kernel
theorem dX11_draw_7 : decode cX11_draw 7 = .ok (.aload_n 0, 1) := by decide +kernel
theorem dX11_draw_8 : decode cX11_draw 8 = .ok (.iload_n 2, 1) := by decide +kernel
theorem dX11_draw_9 : decode cX11_draw 9 = .ok (.invokevirtual 183, 3) := by decide +kernel
theorem dX11_draw_12 : decode cX11_draw 12 = .ok (.ifCond .eq 18, 3) := by decide +kernel
theorem dX11_draw_15 : decode cX11_draw 15 = .ok (.iload_n 3, 1) := by decide +kernel
theorem dX11_draw_16 : decode cX11_draw 16 = .ok (.ifCond .lt 14, 3) := by decide +kernel
theorem dX11_draw_19 : decode cX11_draw 19 = .ok (.iload_n 3, 1) := by decide +kernel
theorem dX11_draw_20 : decode cX11_draw 20 = .ok (.ldc_w 331, 3) := by decide +kernel
theorem dX11_draw_23 : decode cX11_draw 23 = .ok (.if_icmp .gt 7, 3) := by decide +kernel
theorem dX11_draw_26 : decode cX11_draw 26 = .ok (.iconst 1, 1) := by decide +kernel
theorem dX11_draw_27 : decode cX11_draw 27 = .ok (.goto 4, 3) := by decide +kernel
theorem dX11_draw_30 : decode cX11_draw 30 = .ok (.iconst 0, 1) := by decide +kernel
theorem dX11_draw_31 : decode cX11_draw 31 = .ok (.istore 5, 2) := by decide +kernel
theorem dX11_draw_33 : decode cX11_draw 33 = .ok (.iload 5, 2) := by decide +kernel
theorem dX11_draw_35 : decode cX11_draw 35 = .ok (.ifCond .eq 31, 3) := by decide +kernel
theorem dX11_draw_38 : decode cX11_draw 38 = .ok (.iload 4, 2) := by decide +kernel
theorem dX11_draw_40 : decode cX11_draw 40 = .ok (.iconst 1, 1) := by decide +kernel
theorem dX11_draw_41 : decode cX11_draw 41 = .ok (.if_icmp .lt 25, 3) := by decide +kernel
theorem dX11_draw_44 : decode cX11_draw 44 = .ok (.iload 4, 2) := by decide +kernel
theorem dX11_draw_46 : decode cX11_draw 46 = .ok (.bipush 20, 2) := by decide +kernel
theorem dX11_draw_48 : decode cX11_draw 48 = .ok (.if_icmp .gt 18, 3) := by decide +kernel
theorem dX11_draw_51 : decode cX11_draw 51 = .ok (.aload_n 0, 1) := by decide +kernel
theorem dX11_draw_52 : decode cX11_draw 52 = .ok (.getfield 24, 3) := by decide +kernel
theorem dX11_draw_55 : decode cX11_draw 55 = .ok (.getfield 162, 3) := by decide +kernel
theorem dX11_draw_58 : decode cX11_draw 58 = .ok (.iload 4, 2) := by decide +kernel
theorem dX11_draw_60 : decode cX11_draw 60 = .ok (.iadd, 1) := by decide +kernel
theorem dX11_draw_61 : decode cX11_draw 61 = .ok (.bipush 60, 2) := by decide +kernel
theorem dX11_draw_63 : decode cX11_draw 63 = .ok (.if_icmp .le 5, 3) := by decide +kernel
theorem dX11_draw_66 : decode cX11_draw 66 = .ok (.iconst (-1), 1) := by decide +kernel
theorem dX11_draw_67 : decode cX11_draw 67 = .ok (.ireturn, 1) := by decide +kernel
theorem dX11_draw_68 : decode cX11_draw 68 = .ok (.aload_n 0, 1) := by decide +kernel
theorem dX11_draw_69 : decode cX11_draw 69 = .ok (.iload_n 3, 1) := by decide +kernel
theorem dX11_draw_70 : decode cX11_draw 70 = .ok (.i2l, 1) := by decide +kernel
theorem dX11_draw_71 : decode cX11_draw 71 = .ok (.putfield 107, 3) := by decide +kernel
theorem dX11_draw_74 : decode cX11_draw 74 = .ok (.iconst 0, 1) := by decide +kernel
theorem dX11_draw_75 : decode cX11_draw 75 = .ok (.istore 6, 2) := by decide +kernel
theorem dX11_draw_77 : decode cX11_draw 77 = .ok (.iload 6, 2) := by decide +kernel
theorem dX11_draw_79 : decode cX11_draw 79 = .ok (.iload 4, 2) := by decide +kernel
theorem dX11_draw_81 : decode cX11_draw 81 = .ok (.if_icmp .ge 15, 3) := by decide +kernel
theorem dX11_draw_84 : decode cX11_draw 84 = .ok (.aload_n 0, 1) := by decide +kernel
theorem dX11_draw_85 : decode cX11_draw 85 = .ok (.iload_n 1, 1) := by decide +kernel
theorem dX11_draw_86 : decode cX11_draw 86 = .ok (.iload_n 2, 1) := by decide +kernel
theorem dX11_draw_87 : decode cX11_draw 87 = .ok (.invokevirtual 332, 3) := by decide +kernel
theorem dX11_draw_90 : decode cX11_draw 90 = .ok (.iinc 6 1, 3) := by decide +kernel
theorem dX11_draw_93 : decode cX11_draw 93 = .ok (.goto (-16), 3) := by decide +kernel
theorem dX11_draw_96 : decode cX11_draw 96 = .ok (.aload_n 0, 1) := by decide +kernel
theorem dX11_draw_97 : decode cX11_draw 97 = .ok (.getfield 24, 3) := by decide +kernel
theorem dX11_draw_100 : decode cX11_draw 100 = .ok (.getfield 162, 3) := by decide +kernel
theorem dX11_draw_103 : decode cX11_draw 103 = .ok (.ireturn, 1) := by decide +kernel
theorem dX7_copyFrom_0 : decode cX7_copyFrom 0 = .ok (.aload_n 0, 1) := by decide +kernel
theorem dX7_copyFrom_1 : decode cX7_copyFrom 1 = .ok (.aload_n 1, 1) := by decide +kernel
theorem dX7_copyFrom_2 : decode cX7_copyFrom 2 = .ok (.getfield 15, 3) := by decide +kernel
theorem dX7_copyFrom_5 : decode cX7_copyFrom 5 = .ok (.putfield 15, 3) := by decide +kernel
theorem dX7_copyFrom_8 : decode cX7_copyFrom 8 = .ok (.iconst 0, 1) := by decide +kernel
theorem dX7_copyFrom_9 : decode cX7_copyFrom 9 = .ok (.istore_n 2, 1) := by decide +kernel
theorem dX7_copyFrom_10 : decode cX7_copyFrom 10 = .ok (.iload_n 2, 1) := by decide +kernel
theorem dX7_copyFrom_11 : decode cX7_copyFrom 11 = .ok (.aload_n 0, 1) := by decide +kernel
theorem dX7_copyFrom_12 : decode cX7_copyFrom 12 = .ok (.getfield 15, 3) := by decide +kernel
theorem dX7_copyFrom_15 : decode cX7_copyFrom 15 = .ok (.if_icmp .ge 57, 3) := by decide +kernel
theorem dX7_copyFrom_18 : decode cX7_copyFrom 18 = .ok (.aload_n 0, 1) := by decide +kernel
theorem dX7_copyFrom_19 : decode cX7_copyFrom 19 = .ok (.getfield 19, 3) := by decide +kernel
theorem dX7_copyFrom_22 : decode cX7_copyFrom 22 = .ok (.iload_n 2, 1) := by decide +kernel
theorem dX7_copyFrom_23 : decode cX7_copyFrom 23 = .ok (.aload_n 1, 1) := by decide +kernel
theorem dX7_copyFrom_24 : decode cX7_copyFrom 24 = .ok (.getfield 19, 3) := by decide +kernel
theorem dX7_copyFrom_27 : decode cX7_copyFrom 27 = .ok (.iload_n 2, 1) := by decide +kernel
theorem dX7_copyFrom_28 : decode cX7_copyFrom 28 = .ok (.iaload, 1) := by decide +kernel
theorem dX7_copyFrom_29 : decode cX7_copyFrom 29 = .ok (.iastore, 1) := by decide +kernel
theorem dX7_copyFrom_30 : decode cX7_copyFrom 30 = .ok (.aload_n 0, 1) := by decide +kernel
theorem dX7_copyFrom_31 : decode cX7_copyFrom 31 = .ok (.getfield 23, 3) := by decide +kernel
theorem dX7_copyFrom_34 : decode cX7_copyFrom 34 = .ok (.iload_n 2, 1) := by decide +kernel
theorem dX7_copyFrom_35 : decode cX7_copyFrom 35 = .ok (.aload_n 1, 1) := by decide +kernel
theorem dX7_copyFrom_36 : decode cX7_copyFrom 36 = .ok (.getfield 23, 3) := by decide +kernel
theorem dX7_copyFrom_39 : decode cX7_copyFrom 39 = .ok (.iload_n 2, 1) := by decide +kernel
theorem dX7_copyFrom_40 : decode cX7_copyFrom 40 = .ok (.iaload, 1) := by decide +kernel
theorem dX7_copyFrom_41 : decode cX7_copyFrom 41 = .ok (.iastore, 1) := by decide +kernel
theorem dX7_copyFrom_42 : decode cX7_copyFrom 42 = .ok (.aload_n 0, 1) := by decide +kernel
theorem dX7_copyFrom_43 : decode cX7_copyFrom 43 = .ok (.getfield 26, 3) := by decide +kernel
theorem dX7_copyFrom_46 : decode cX7_copyFrom 46 = .ok (.iload_n 2, 1) := by decide +kernel
theorem dX7_copyFrom_47 : decode cX7_copyFrom 47 = .ok (.aload_n 1, 1) := by decide +kernel
theorem dX7_copyFrom_48 : decode cX7_copyFrom 48 = .ok (.getfield 26, 3) := by decide +kernel
theorem dX7_copyFrom_51 : decode cX7_copyFrom 51 = .ok (.iload_n 2, 1) := by decide +kernel
theorem dX7_copyFrom_52 : decode cX7_copyFrom 52 = .ok (.iaload, 1) := by decide +kernel
theorem dX7_copyFrom_53 : decode cX7_copyFrom 53 = .ok (.iastore, 1) := by decide +kernel
theorem dX7_copyFrom_54 : decode cX7_copyFrom 54 = .ok (.aload_n 0, 1) := by decide +kernel
theorem dX7_copyFrom_55 : decode cX7_copyFrom 55 = .ok (.getfield 29, 3) := by decide +kernel
theorem dX7_copyFrom_58 : decode cX7_copyFrom 58 = .ok (.iload_n 2, 1) := by decide +kernel
theorem dX7_copyFrom_59 : decode cX7_copyFrom 59 = .ok (.aload_n 1, 1) := by decide +kernel
theorem dX7_copyFrom_60 : decode cX7_copyFrom 60 = .ok (.getfield 29, 3) := by decide +kernel
theorem dX7_copyFrom_63 : decode cX7_copyFrom 63 = .ok (.iload_n 2, 1) := by decide +kernel
theorem dX7_copyFrom_64 : decode cX7_copyFrom 64 = .ok (.iaload, 1) := by decide +kernel
theorem dX7_copyFrom_65 : decode cX7_copyFrom 65 = .ok (.iastore, 1) := by decide +kernel
theorem dX7_copyFrom_66 : decode cX7_copyFrom 66 = .ok (.iinc 2 1, 3) := by decide +kernel
theorem dX7_copyFrom_69 : decode cX7_copyFrom 69 = .ok (.goto (-59), 3) := by decide +kernel
theorem dX7_copyFrom_72 : decode cX7_copyFrom 72 = .ok (.aload_n 0, 1) := by decide +kernel
theorem dX7_copyFrom_73 : decode cX7_copyFrom 73 = .ok (.aload_n 1, 1) := by decide +kernel
theorem dX7_copyFrom_74 : decode cX7_copyFrom 74 = .ok (.getfield 32, 3) := by decide +kernel
theorem dX7_copyFrom_77 : decode cX7_copyFrom 77 = .ok (.putfield 32, 3) := by decide +kernel
theorem dX7_copyFrom_80 : decode cX7_copyFrom 80 = .ok (.iconst 0, 1) := by decide +kernel
theorem dX7_copyFrom_81 : decode cX7_copyFrom 81 = .ok (.istore_n 2, 1) := by decide +kernel
theorem dX7_copyFrom_82 : decode cX7_copyFrom 82 = .ok (.iload_n 2, 1) := by decide +kernel
theorem dX7_copyFrom_83 : decode cX7_copyFrom 83 = .ok (.aload_n 0, 1) := by decide +kernel
theorem dX7_copyFrom_84 : decode cX7_copyFrom 84 = .ok (.getfield 32, 3) := by decide +kernel
theorem dX7_copyFrom_87 : decode cX7_copyFrom 87 = .ok (.if_icmp .ge 69, 3) := by decide +kernel
theorem dX7_copyFrom_90 : decode cX7_copyFrom 90 = .ok (.aload_n 0, 1) := by decide +kernel
theorem dX7_copyFrom_91 : decode cX7_copyFrom 91 = .ok (.getfield 35, 3) := by decide +kernel
theorem dX7_copyFrom_94 : decode cX7_copyFrom 94 = .ok (.iload_n 2, 1) := by decide +kernel
theorem dX7_copyFrom_95 : decode cX7_copyFrom 95 = .ok (.aload_n 1, 1) := by decide +kernel
theorem dX7_copyFrom_96 : decode cX7_copyFrom 96 = .ok (.getfield 35, 3) := by decide +kernel
theorem dX7_copyFrom_99 : decode cX7_copyFrom 99 = .ok (.iload_n 2, 1) := by decide +kernel
theorem dX7_copyFrom_100 : decode cX7_copyFrom 100 = .ok (.iaload, 1) := by decide +kernel
theorem dX7_copyFrom_101 : decode cX7_copyFrom 101 = .ok (.iastore, 1) := by decide +kernel
theorem dX7_copyFrom_102 : decode cX7_copyFrom 102 = .ok (.aload_n 0, 1) := by decide +kernel
theorem dX7_copyFrom_103 : decode cX7_copyFrom 103 = .ok (.getfield 38, 3) := by decide +kernel
theorem dX7_copyFrom_106 : decode cX7_copyFrom 106 = .ok (.iload_n 2, 1) := by decide +kernel
theorem dX7_copyFrom_107 : decode cX7_copyFrom 107 = .ok (.aload_n 1, 1) := by decide +kernel
theorem dX7_copyFrom_108 : decode cX7_copyFrom 108 = .ok (.getfield 38, 3) := by decide +kernel
theorem dX7_copyFrom_111 : decode cX7_copyFrom 111 = .ok (.iload_n 2, 1) := by decide +kernel
theorem dX7_copyFrom_112 : decode cX7_copyFrom 112 = .ok (.iaload, 1) := by decide +kernel
theorem dX7_copyFrom_113 : decode cX7_copyFrom 113 = .ok (.iastore, 1) := by decide +kernel
theorem dX7_copyFrom_114 : decode cX7_copyFrom 114 = .ok (.aload_n 0, 1) := by decide +kernel
theorem dX7_copyFrom_115 : decode cX7_copyFrom 115 = .ok (.getfield 41, 3) := by decide +kernel
theorem dX7_copyFrom_118 : decode cX7_copyFrom 118 = .ok (.iload_n 2, 1) := by decide +kernel
theorem dX7_copyFrom_119 : decode cX7_copyFrom 119 = .ok (.aload_n 1, 1) := by decide +kernel
theorem dX7_copyFrom_120 : decode cX7_copyFrom 120 = .ok (.getfield 41, 3) := by decide +kernel
theorem dX7_copyFrom_123 : decode cX7_copyFrom 123 = .ok (.iload_n 2, 1) := by decide +kernel
theorem dX7_copyFrom_124 : decode cX7_copyFrom 124 = .ok (.iaload, 1) := by decide +kernel
theorem dX7_copyFrom_125 : decode cX7_copyFrom 125 = .ok (.iastore, 1) := by decide +kernel
theorem dX7_copyFrom_126 : decode cX7_copyFrom 126 = .ok (.aload_n 0, 1) := by decide +kernel
theorem dX7_copyFrom_127 : decode cX7_copyFrom 127 = .ok (.getfield 44, 3) := by decide +kernel
theorem dX7_copyFrom_130 : decode cX7_copyFrom 130 = .ok (.iload_n 2, 1) := by decide +kernel
theorem dX7_copyFrom_131 : decode cX7_copyFrom 131 = .ok (.aload_n 1, 1) := by decide +kernel
theorem dX7_copyFrom_132 : decode cX7_copyFrom 132 = .ok (.getfield 44, 3) := by decide +kernel
theorem dX7_copyFrom_135 : decode cX7_copyFrom 135 = .ok (.iload_n 2, 1) := by decide +kernel
theorem dX7_copyFrom_136 : decode cX7_copyFrom 136 = .ok (.iaload, 1) := by decide +kernel
theorem dX7_copyFrom_137 : decode cX7_copyFrom 137 = .ok (.iastore, 1) := by decide +kernel
theorem dX7_copyFrom_138 : decode cX7_copyFrom 138 = .ok (.aload_n 0, 1) := by decide +kernel
theorem dX7_copyFrom_139 : decode cX7_copyFrom 139 = .ok (.getfield 47, 3) := by decide +kernel
theorem dX7_copyFrom_142 : decode cX7_copyFrom 142 = .ok (.iload_n 2, 1) := by decide +kernel
theorem dX7_copyFrom_143 : decode cX7_copyFrom 143 = .ok (.aload_n 1, 1) := by decide +kernel
theorem dX7_copyFrom_144 : decode cX7_copyFrom 144 = .ok (.getfield 47, 3) := by decide +kernel
theorem dX7_copyFrom_147 : decode cX7_copyFrom 147 = .ok (.iload_n 2, 1) := by decide +kernel
theorem dX7_copyFrom_148 : decode cX7_copyFrom 148 = .ok (.baload, 1) := by decide +kernel
theorem dX7_copyFrom_149 : decode cX7_copyFrom 149 = .ok (.bastore, 1) := by decide +kernel
theorem dX7_copyFrom_150 : decode cX7_copyFrom 150 = .ok (.iinc 2 1, 3) := by decide +kernel
theorem dX7_copyFrom_153 : decode cX7_copyFrom 153 = .ok (.goto (-71), 3) := by decide +kernel
theorem dX7_copyFrom_156 : decode cX7_copyFrom 156 = .ok (.return_, 1) := by decide +kernel
theorem dX11_image_0 : decode cX11_image 0 = .ok (.aload_n 0, 1) := by decide +kernel
theorem dX11_image_1 : decode cX11_image 1 = .ok (.invokevirtual 165, 3) := by decide +kernel
theorem dX11_image_4 : decode cX11_image 4 = .ok (.ifCond .eq 12, 3) := by decide +kernel
theorem dX11_image_7 : decode cX11_image 7 = .ok (.iload_n 1, 1) := by decide +kernel
theorem dX11_image_8 : decode cX11_image 8 = .ok (.ifCond .lt 8, 3) := by decide +kernel
theorem dX11_image_11 : decode cX11_image 11 = .ok (.iload_n 1, 1) := by decide +kernel
theorem dX11_image_12 : decode cX11_image 12 = .ok (.iconst 3, 1) := by decide +kernel
theorem dX11_image_13 : decode cX11_image 13 = .ok (.if_icmp .lt 5, 3) := by decide +kernel
theorem dX11_image_16 : decode cX11_image 16 = .ok (.iconst 0, 1) := by decide +kernel
theorem dX11_image_17 : decode cX11_image 17 = .ok (.ireturn, 1) := by decide +kernel
theorem dX11_image_18 : decode cX11_image 18 = .ok (.aload_n 0, 1) := by decide +kernel
theorem dX11_image_19 : decode cX11_image 19 = .ok (.getfield 28, 3) := by decide +kernel
theorem dX11_image_22 : decode cX11_image 22 = .ok (.iload_n 1, 1) := by decide +kernel
theorem dX11_image_23 : decode cX11_image 23 = .ok (.aaload, 1) := by decide +kernel
theorem dX11_image_24 : decode cX11_image 24 = .ok (.aload_n 0, 1) := by decide +kernel
theorem dX11_image_25 : decode cX11_image 25 = .ok (.getfield 24, 3) := by decide +kernel
theorem dX11_image_28 : decode cX11_image 28 = .ok (.invokevirtual 335, 3) := by decide +kernel
theorem dX11_image_31 : decode cX11_image 31 = .ok (.aload_n 0, 1) := by decide +kernel
theorem dX11_image_32 : decode cX11_image 32 = .ok (.getfield 28, 3) := by decide +kernel
theorem dX11_image_35 : decode cX11_image 35 = .ok (.iload_n 1, 1) := by decide +kernel
theorem dX11_image_36 : decode cX11_image 36 = .ok (.aaload, 1) := by decide +kernel
theorem dX11_image_37 : decode cX11_image 37 = .ok (.iconst 1, 1) := by decide +kernel
theorem dX11_image_38 : decode cX11_image 38 = .ok (.putfield 132, 3) := by decide +kernel
theorem dX11_image_41 : decode cX11_image 41 = .ok (.iconst 1, 1) := by decide +kernel
theorem dX11_image_42 : decode cX11_image 42 = .ok (.ireturn, 1) := by decide +kernel
theorem dX11_back_0 : decode cX11_back 0 = .ok (.iload_n 1, 1) := by decide +kernel
theorem dX11_back_1 : decode cX11_back 1 = .ok (.ifCond .lt 20, 3) := by decide +kernel
theorem dX11_back_4 : decode cX11_back 4 = .ok (.iload_n 1, 1) := by decide +kernel
theorem dX11_back_5 : decode cX11_back 5 = .ok (.iconst 3, 1) := by decide +kernel
theorem dX11_back_6 : decode cX11_back 6 = .ok (.if_icmp .ge 15, 3) := by decide +kernel
theorem dX11_back_9 : decode cX11_back 9 = .ok (.aload_n 0, 1) := by decide +kernel
theorem dX11_back_10 : decode cX11_back 10 = .ok (.getfield 28, 3) := by decide +kernel
theorem dX11_back_13 : decode cX11_back 13 = .ok (.iload_n 1, 1) := by decide +kernel
theorem dX11_back_14 : decode cX11_back 14 = .ok (.aaload, 1) := by decide +kernel
theorem dX11_back_15 : decode cX11_back 15 = .ok (.getfield 132, 3) := by decide +kernel
theorem dX11_back_18 : decode cX11_back 18 = .ok (.ifCond .ne 5, 3) := by decide +kernel
theorem dX11_back_21 : decode cX11_back 21 = .ok (.iconst 0, 1) := by decide +kernel
theorem dX11_back_22 : decode cX11_back 22 = .ok (.ireturn, 1) := by decide +kernel
theorem dX11_back_23 : decode cX11_back 23 = .ok (.aload_n 0, 1) := by decide +kernel
theorem dX11_back_24 : decode cX11_back 24 = .ok (.getfield 24, 3) := by decide +kernel
theorem dX11_back_27 : decode cX11_back 27 = .ok (.aload_n 0, 1) := by decide +kernel
theorem dX11_back_28 : decode cX11_back 28 = .ok (.getfield 28, 3) := by decide +kernel
theorem dX11_back_31 : decode cX11_back 31 = .ok (.iload_n 1, 1) := by decide +kernel
theorem dX11_back_32 : decode cX11_back 32 = .ok (.aaload, 1) := by decide +kernel
theorem dX11_back_33 : decode cX11_back 33 = .ok (.invokevirtual 335, 3) := by decide +kernel
theorem dX11_back_36 : decode cX11_back 36 = .ok (.iconst 1, 1) := by decide +kernel
theorem dX11_back_37 : decode cX11_back 37 = .ok (.ireturn, 1) := by decide +kernel
