theorem d_M_init_0 : decode b_M_init 0 = .ok (.aload_n 0, 1) := by decide +kernel
theorem d_M_init_1 : decode b_M_init 1 = .ok (.invokespecial 1, 3) := by decide +kernel
theorem d_M_init_4 : decode b_M_init 4 = .ok (.aload_n 0, 1) := by decide +kernel
theorem d_M_init_5 : decode b_M_init 5 = .ok (.bipush 40, 2) := by decide +kernel
theorem d_M_init_7 : decode b_M_init 7 = .ok (.newarray .int, 2) := by decide +kernel
theorem d_M_init_9 : decode b_M_init 9 = .ok (.putfield 7, 3) := by decide +kernel
theorem d_M_init_12 : decode b_M_init 12 = .ok (.aload_n 0, 1) := by decide +kernel
theorem d_M_init_13 : decode b_M_init 13 = .ok (.bipush 40, 2) := by decide +kernel
theorem d_M_init_15 : decode b_M_init 15 = .ok (.newarray .int, 2) := by decide +kernel
theorem d_M_init_17 : decode b_M_init 17 = .ok (.putfield 13, 3) := by decide +kernel
theorem d_M_init_20 : decode b_M_init 20 = .ok (.aload_n 0, 1) := by decide +kernel
theorem d_M_init_21 : decode b_M_init 21 = .ok (.bipush 40, 2) := by decide +kernel
theorem d_M_init_23 : decode b_M_init 23 = .ok (.newarray .int, 2) := by decide +kernel
theorem d_M_init_25 : decode b_M_init 25 = .ok (.putfield 16, 3) := by decide +kernel
theorem d_M_init_28 : decode b_M_init 28 = .ok (.aload_n 0, 1) := by decide +kernel
theorem d_M_init_29 : decode b_M_init 29 = .ok (.bipush 40, 2) := by decide +kernel
theorem d_M_init_31 : decode b_M_init 31 = .ok (.newarray .int, 2) := by decide +kernel
theorem d_M_init_33 : decode b_M_init 33 = .ok (.putfield 19, 3) := by decide +kernel
theorem d_M_init_36 : decode b_M_init 36 = .ok (.aload_n 0, 1) := by decide +kernel
theorem d_M_init_37 : decode b_M_init 37 = .ok (.bipush 40, 2) := by decide +kernel
theorem d_M_init_39 : decode b_M_init 39 = .ok (.newarray .int, 2) := by decide +kernel
theorem d_M_init_41 : decode b_M_init 41 = .ok (.putfield 22, 3) := by decide +kernel
theorem d_M_init_44 : decode b_M_init 44 = .ok (.aload_n 0, 1) := by decide +kernel
theorem d_M_init_45 : decode b_M_init 45 = .ok (.bipush 40, 2) := by decide +kernel
theorem d_M_init_47 : decode b_M_init 47 = .ok (.newarray .int, 2) := by decide +kernel
theorem d_M_init_49 : decode b_M_init 49 = .ok (.putfield 25, 3) := by decide +kernel
theorem d_M_init_52 : decode b_M_init 52 = .ok (.aload_n 0, 1) := by decide +kernel
theorem d_M_init_53 : decode b_M_init 53 = .ok (.bipush 40, 2) := by decide +kernel
theorem d_M_init_55 : decode b_M_init 55 = .ok (.newarray .int, 2) := by decide +kernel
theorem d_M_init_57 : decode b_M_init 57 = .ok (.putfield 28, 3) := by decide +kernel
theorem d_M_init_60 : decode b_M_init 60 = .ok (.aload_n 0, 1) := by decide +kernel
theorem d_M_init_61 : decode b_M_init 61 = .ok (.bipush 40, 2) := by decide +kernel
theorem d_M_init_63 : decode b_M_init 63 = .ok (.newarray .int, 2) := by decide +kernel
theorem d_M_init_65 : decode b_M_init 65 = .ok (.putfield 31, 3) := by decide +kernel
theorem d_M_init_68 : decode b_M_init 68 = .ok (.aload_n 0, 1) := by decide +kernel
theorem d_M_init_69 : decode b_M_init 69 = .ok (.bipush 80, 2) := by decide +kernel
theorem d_M_init_71 : decode b_M_init 71 = .ok (.newarray .boolean, 2) := by decide +kernel
theorem d_M_init_73 : decode b_M_init 73 = .ok (.putfield 34, 3) := by decide +kernel
theorem d_M_init_76 : decode b_M_init 76 = .ok (.aload_n 0, 1) := by decide +kernel
theorem d_M_init_77 : decode b_M_init 77 = .ok (.bipush 80, 2) := by decide +kernel
theorem d_M_init_79 : decode b_M_init 79 = .ok (.newarray .long, 2) := by decide +kernel
theorem d_M_init_81 : decode b_M_init 81 = .ok (.putfield 38, 3) := by decide +kernel
theorem d_M_init_84 : decode b_M_init 84 = .ok (.aload_n 0, 1) := by decide +kernel
theorem d_M_init_85 : decode b_M_init 85 = .ok (.sipush 640, 3) := by decide +kernel
theorem d_M_init_88 : decode b_M_init 88 = .ok (.newarray .long, 2) := by decide +kernel
theorem d_M_init_90 : decode b_M_init 90 = .ok (.putfield 42, 3) := by decide +kernel
theorem d_M_init_93 : decode b_M_init 93 = .ok (.aload_n 0, 1) := by decide +kernel
theorem d_M_init_94 : decode b_M_init 94 = .ok (.sipush 640, 3) := by decide +kernel
theorem d_M_init_97 : decode b_M_init 97 = .ok (.newarray .long, 2) := by decide +kernel
theorem d_M_init_99 : decode b_M_init 99 = .ok (.putfield 45, 3) := by decide +kernel
theorem d_M_init_102 : decode b_M_init 102 = .ok (.aload_n 0, 1) := by decide +kernel
theorem d_M_init_103 : decode b_M_init 103 = .ok (.bipush 80, 2) := by decide +kernel
theorem d_M_init_105 : decode b_M_init 105 = .ok (.newarray .int, 2) := by decide +kernel
theorem d_M_init_107 : decode b_M_init 107 = .ok (.putfield 48, 3) := by decide +kernel
theorem d_M_init_110 : decode b_M_init 110 = .ok (.aload_n 0, 1) := by decide +kernel
theorem d_M_init_111 : decode b_M_init 111 = .ok (.sipush 320, 3) := by decide +kernel
theorem d_M_init_114 : decode b_M_init 114 = .ok (.newarray .int, 2) := by decide +kernel
theorem d_M_init_116 : decode b_M_init 116 = .ok (.putfield 51, 3) := by decide +kernel
theorem d_M_init_119 : decode b_M_init 119 = .ok (.aload_n 0, 1) := by decide +kernel
theorem d_M_init_120 : decode b_M_init 120 = .ok (.sipush 320, 3) := by decide +kernel
theorem d_M_init_123 : decode b_M_init 123 = .ok (.newarray .int, 2) := by decide +kernel
theorem d_M_init_125 : decode b_M_init 125 = .ok (.putfield 54, 3) := by decide +kernel
theorem d_M_init_128 : decode b_M_init 128 = .ok (.aload_n 0, 1) := by decide +kernel
theorem d_M_init_129 : decode b_M_init 129 = .ok (.bipush 80, 2) := by decide +kernel
theorem d_M_init_131 : decode b_M_init 131 = .ok (.newarray .int, 2) := by decide +kernel
theorem d_M_init_133 : decode b_M_init 133 = .ok (.putfield 57, 3) := by decide +kernel
theorem d_M_init_136 : decode b_M_init 136 = .ok (.aload_n 0, 1) := by decide +kernel
theorem d_M_init_137 : decode b_M_init 137 = .ok (.bipush 80, 2) := by decide +kernel
theorem d_M_init_139 : decode b_M_init 139 = .ok (.newarray .int, 2) := by decide +kernel
theorem d_M_init_141 : decode b_M_init 141 = .ok (.putfield 60, 3) := by decide +kernel
theorem d_M_init_144 : decode b_M_init 144 = .ok (.aload_n 0, 1) := by decide +kernel
theorem d_M_init_145 : decode b_M_init 145 = .ok (.bipush 80, 2) := by decide +kernel
theorem d_M_init_147 : decode b_M_init 147 = .ok (.newarray .int, 2) := by decide +kernel
theorem d_M_init_149 : decode b_M_init 149 = .ok (.putfield 63, 3) := by decide +kernel
theorem d_M_init_152 : decode b_M_init 152 = .ok (.aload_n 0, 1) := by decide +kernel
theorem d_M_init_153 : decode b_M_init 153 = .ok (.iconst 0, 1) := by decide +kernel
theorem d_M_init_154 : decode b_M_init 154 = .ok (.iconst 0, 1) := by decide +kernel
theorem d_M_init_155 : decode b_M_init 155 = .ok (.invokevirtual 66, 3) := by decide +kernel
theorem d_M_init_158 : decode b_M_init 158 = .ok (.return_, 1) := by decide +kernel
theorem d_M_thrown_0 : decode b_M_thrown 0 = .ok (.aload_n 0, 1) := by decide +kernel
theorem d_M_thrown_1 : decode b_M_thrown 1 = .ok (.getfield 70, 3) := by decide +kernel
theorem d_M_thrown_4 : decode b_M_thrown 4 = .ok (.ireturn, 1) := by decide +kernel
theorem d_M_look_0 : decode b_M_look 0 = .ok (.iconst 0, 1) := by decide +kernel
theorem d_M_look_1 : decode b_M_look 1 = .ok (.istore_n 3, 1) := by decide +kernel
theorem d_M_look_2 : decode b_M_look 2 = .ok (.iload_n 3, 1) := by decide +kernel
theorem d_M_look_3 : decode b_M_look 3 = .ok (.bipush 80, 2) := by decide +kernel
theorem d_M_look_5 : decode b_M_look 5 = .ok (.if_icmp .ge 30, 3) := by decide +kernel
theorem d_M_look_8 : decode b_M_look 8 = .ok (.aload_n 0, 1) := by decide +kernel
theorem d_M_look_9 : decode b_M_look 9 = .ok (.getfield 34, 3) := by decide +kernel
theorem d_M_look_12 : decode b_M_look 12 = .ok (.iload_n 3, 1) := by decide +kernel
theorem d_M_look_13 : decode b_M_look 13 = .ok (.iconst 0, 1) := by decide +kernel
theorem d_M_look_14 : decode b_M_look 14 = .ok (.bastore, 1) := by decide +kernel
theorem d_M_look_15 : decode b_M_look 15 = .ok (.aload_n 0, 1) := by decide +kernel
theorem d_M_look_16 : decode b_M_look 16 = .ok (.getfield 60, 3) := by decide +kernel
theorem d_M_look_19 : decode b_M_look 19 = .ok (.iload_n 3, 1) := by decide +kernel
theorem d_M_look_20 : decode b_M_look 20 = .ok (.iconst (-1), 1) := by decide +kernel
theorem d_M_look_21 : decode b_M_look 21 = .ok (.iastore, 1) := by decide +kernel
theorem d_M_look_22 : decode b_M_look 22 = .ok (.aload_n 0, 1) := by decide +kernel
theorem d_M_look_23 : decode b_M_look 23 = .ok (.getfield 63, 3) := by decide +kernel
theorem d_M_look_26 : decode b_M_look 26 = .ok (.iload_n 3, 1) := by decide +kernel
theorem d_M_look_27 : decode b_M_look 27 = .ok (.iconst (-1), 1) := by decide +kernel
theorem d_M_look_28 : decode b_M_look 28 = .ok (.iastore, 1) := by decide +kernel
theorem d_M_look_29 : decode b_M_look 29 = .ok (.iinc 3 1, 3) := by decide +kernel
theorem d_M_look_32 : decode b_M_look 32 = .ok (.goto (-30), 3) := by decide +kernel
theorem d_M_look_35 : decode b_M_look 35 = .ok (.iconst 0, 1) := by decide +kernel
theorem d_M_look_36 : decode b_M_look 36 = .ok (.istore_n 3, 1) := by decide +kernel
theorem d_M_look_37 : decode b_M_look 37 = .ok (.iload_n 3, 1) := by decide +kernel
theorem d_M_look_38 : decode b_M_look 38 = .ok (.aload_n 0, 1) := by decide +kernel
theorem d_M_look_39 : decode b_M_look 39 = .ok (.getfield 74, 3) := by decide +kernel
theorem d_M_look_42 : decode b_M_look 42 = .ok (.if_icmp .ge 16, 3) := by decide +kernel
theorem d_M_look_45 : decode b_M_look 45 = .ok (.aload_n 0, 1) := by decide +kernel
theorem d_M_look_46 : decode b_M_look 46 = .ok (.getfield 31, 3) := by decide +kernel
theorem d_M_look_49 : decode b_M_look 49 = .ok (.iload_n 3, 1) := by decide +kernel
theorem d_M_look_50 : decode b_M_look 50 = .ok (.iconst (-1), 1) := by decide +kernel
theorem d_M_look_51 : decode b_M_look 51 = .ok (.iastore, 1) := by decide +kernel
theorem d_M_look_52 : decode b_M_look 52 = .ok (.iinc 3 1, 3) := by decide +kernel
theorem d_M_look_55 : decode b_M_look 55 = .ok (.goto (-18), 3) := by decide +kernel
theorem d_M_look_58 : decode b_M_look 58 = .ok (.iconst 0, 1) := by decide +kernel
theorem d_M_look_59 : decode b_M_look 59 = .ok (.istore_n 3, 1) := by decide +kernel
theorem d_M_look_60 : decode b_M_look 60 = .ok (.iload_n 3, 1) := by decide +kernel
theorem d_M_look_61 : decode b_M_look 61 = .ok (.iload_n 2, 1) := by decide +kernel
theorem d_M_look_62 : decode b_M_look 62 = .ok (.if_icmp .gt 78, 3) := by decide +kernel
theorem d_M_look_65 : decode b_M_look 65 = .ok (.iconst 0, 1) := by decide +kernel
theorem d_M_look_66 : decode b_M_look 66 = .ok (.istore 4, 2) := by decide +kernel
theorem d_M_look_68 : decode b_M_look 68 = .ok (.iload 4, 2) := by decide +kernel
theorem d_M_look_70 : decode b_M_look 70 = .ok (.aload_n 0, 1) := by decide +kernel
theorem d_M_look_71 : decode b_M_look 71 = .ok (.getfield 74, 3) := by decide +kernel
theorem d_M_look_74 : decode b_M_look 74 = .ok (.if_icmp .ge 60, 3) := by decide +kernel
theorem d_M_look_77 : decode b_M_look 77 = .ok (.aload_n 0, 1) := by decide +kernel
theorem d_M_look_78 : decode b_M_look 78 = .ok (.getfield 16, 3) := by decide +kernel
theorem d_M_look_81 : decode b_M_look 81 = .ok (.iload 4, 2) := by decide +kernel
theorem d_M_look_83 : decode b_M_look 83 = .ok (.iaload, 1) := by decide +kernel
theorem d_M_look_84 : decode b_M_look 84 = .ok (.iload_n 3, 1) := by decide +kernel
theorem d_M_look_85 : decode b_M_look 85 = .ok (.if_icmp .ne 43, 3) := by decide +kernel
theorem d_M_look_88 : decode b_M_look 88 = .ok (.aload_n 0, 1) := by decide +kernel
theorem d_M_look_89 : decode b_M_look 89 = .ok (.getfield 13, 3) := by decide +kernel
theorem d_M_look_92 : decode b_M_look 92 = .ok (.iload 4, 2) := by decide +kernel
theorem d_M_look_94 : decode b_M_look 94 = .ok (.iaload, 1) := by decide +kernel
theorem d_M_look_95 : decode b_M_look 95 = .ok (.iload_n 1, 1) := by decide +kernel
theorem d_M_look_96 : decode b_M_look 96 = .ok (.if_icmp .gt 32, 3) := by decide +kernel
theorem d_M_look_99 : decode b_M_look 99 = .ok (.aload_n 0, 1) := by decide +kernel
theorem d_M_look_100 : decode b_M_look 100 = .ok (.getfield 31, 3) := by decide +kernel
theorem d_M_look_103 : decode b_M_look 103 = .ok (.iload 4, 2) := by decide +kernel
theorem d_M_look_105 : decode b_M_look 105 = .ok (.aload_n 0, 1) := by decide +kernel
theorem d_M_look_106 : decode b_M_look 106 = .ok (.iload 4, 2) := by decide +kernel
theorem d_M_look_108 : decode b_M_look 108 = .ok (.invokevirtual 77, 3) := by decide +kernel
theorem d_M_look_111 : decode b_M_look 111 = .ok (.iastore, 1) := by decide +kernel
theorem d_M_look_112 : decode b_M_look 112 = .ok (.aload_n 0, 1) := by decide +kernel
theorem d_M_look_113 : decode b_M_look 113 = .ok (.getfield 31, 3) := by decide +kernel
theorem d_M_look_116 : decode b_M_look 116 = .ok (.iload 4, 2) := by decide +kernel
theorem d_M_look_118 : decode b_M_look 118 = .ok (.iaload, 1) := by decide +kernel
theorem d_M_look_119 : decode b_M_look 119 = .ok (.ifCond .ne 9, 3) := by decide +kernel
theorem d_M_look_122 : decode b_M_look 122 = .ok (.aload_n 0, 1) := by decide +kernel
theorem d_M_look_123 : decode b_M_look 123 = .ok (.iload 4, 2) := by decide +kernel
theorem d_M_look_125 : decode b_M_look 125 = .ok (.invokevirtual 81, 3) := by decide +kernel
theorem d_M_look_128 : decode b_M_look 128 = .ok (.iinc 4 1, 3) := by decide +kernel
theorem d_M_look_131 : decode b_M_look 131 = .ok (.goto (-63), 3) := by decide +kernel
theorem d_M_look_134 : decode b_M_look 134 = .ok (.iinc 3 1, 3) := by decide +kernel
theorem d_M_look_137 : decode b_M_look 137 = .ok (.goto (-77), 3) := by decide +kernel
theorem d_M_look_140 : decode b_M_look 140 = .ok (.return_, 1) := by decide +kernel
theorem d_M_isWarned_0 : decode b_M_isWarned 0 = .ok (.aload_n 0, 1) := by decide +kernel
theorem d_M_isWarned_1 : decode b_M_isWarned 1 = .ok (.getfield 57, 3) := by decide +kernel
theorem d_M_isWarned_4 : decode b_M_isWarned 4 = .ok (.iload_n 1, 1) := by decide +kernel
theorem d_M_isWarned_5 : decode b_M_isWarned 5 = .ok (.iaload, 1) := by decide +kernel
theorem d_M_isWarned_6 : decode b_M_isWarned 6 = .ok (.ifCond .eq 7, 3) := by decide +kernel
theorem d_M_isWarned_9 : decode b_M_isWarned 9 = .ok (.iconst 1, 1) := by decide +kernel
theorem d_M_isWarned_10 : decode b_M_isWarned 10 = .ok (.goto 4, 3) := by decide +kernel
theorem d_M_isWarned_13 : decode b_M_isWarned 13 = .ok (.iconst 0, 1) := by decide +kernel
theorem d_M_isWarned_14 : decode b_M_isWarned 14 = .ok (.ireturn, 1) := by decide +kernel
theorem d_M_reason_0 : decode b_M_reason 0 = .ok (.aload_n 0, 1) := by decide +kernel
theorem d_M_reason_1 : decode b_M_reason 1 = .ok (.getfield 7, 3) := by decide +kernel
theorem d_M_reason_4 : decode b_M_reason 4 = .ok (.iload_n 1, 1) := by decide +kernel
theorem d_M_reason_5 : decode b_M_reason 5 = .ok (.iaload, 1) := by decide +kernel
theorem d_M_reason_6 : decode b_M_reason 6 = .ok (.istore_n 2, 1) := by decide +kernel
theorem d_M_reason_7 : decode b_M_reason 7 = .ok (.aload_n 0, 1) := by decide +kernel
theorem d_M_reason_8 : decode b_M_reason 8 = .ok (.getfield 19, 3) := by decide +kernel
theorem d_M_reason_11 : decode b_M_reason 11 = .ok (.iload_n 1, 1) := by decide +kernel
theorem d_M_reason_12 : decode b_M_reason 12 = .ok (.iaload, 1) := by decide +kernel
theorem d_M_reason_13 : decode b_M_reason 13 = .ok (.istore_n 3, 1) := by decide +kernel
theorem d_M_reason_14 : decode b_M_reason 14 = .ok (.iload_n 2, 1) := by decide +kernel
theorem d_M_reason_15 : decode b_M_reason 15 = .ok (.ifCond .ne 5, 3) := by decide +kernel
theorem d_M_reason_18 : decode b_M_reason 18 = .ok (.iconst 0, 1) := by decide +kernel
theorem d_M_reason_19 : decode b_M_reason 19 = .ok (.ireturn, 1) := by decide +kernel
theorem d_M_reason_20 : decode b_M_reason 20 = .ok (.aload_n 0, 1) := by decide +kernel
theorem d_M_reason_21 : decode b_M_reason 21 = .ok (.getfield 34, 3) := by decide +kernel
theorem d_M_reason_24 : decode b_M_reason 24 = .ok (.iload_n 3, 1) := by decide +kernel
theorem d_M_reason_25 : decode b_M_reason 25 = .ok (.baload, 1) := by decide +kernel
theorem d_M_reason_26 : decode b_M_reason 26 = .ok (.ifCond .eq 23, 3) := by decide +kernel
theorem d_M_reason_29 : decode b_M_reason 29 = .ok (.iload_n 2, 1) := by decide +kernel
theorem d_M_reason_30 : decode b_M_reason 30 = .ok (.bipush 8, 2) := by decide +kernel
theorem d_M_reason_32 : decode b_M_reason 32 = .ok (.if_icmp .ne 19, 3) := by decide +kernel
theorem d_M_reason_35 : decode b_M_reason 35 = .ok (.aload_n 0, 1) := by decide +kernel
theorem d_M_reason_36 : decode b_M_reason 36 = .ok (.getfield 34, 3) := by decide +kernel
theorem d_M_reason_39 : decode b_M_reason 39 = .ok (.aload_n 0, 1) := by decide +kernel
theorem d_M_reason_40 : decode b_M_reason 40 = .ok (.getfield 22, 3) := by decide +kernel
theorem d_M_reason_43 : decode b_M_reason 43 = .ok (.iload_n 1, 1) := by decide +kernel
theorem d_M_reason_44 : decode b_M_reason 44 = .ok (.iaload, 1) := by decide +kernel
theorem d_M_reason_45 : decode b_M_reason 45 = .ok (.baload, 1) := by decide +kernel
theorem d_M_reason_46 : decode b_M_reason 46 = .ok (.ifCond .ne 5, 3) := by decide +kernel
theorem d_M_reason_49 : decode b_M_reason 49 = .ok (.iconst 1, 1) := by decide +kernel
theorem d_M_reason_50 : decode b_M_reason 50 = .ok (.ireturn, 1) := by decide +kernel
theorem d_M_reason_51 : decode b_M_reason 51 = .ok (.iload_n 2, 1) := by decide +kernel
theorem d_M_reason_52 : decode b_M_reason 52 = .ok (.iconst 4, 1) := by decide +kernel
theorem d_M_reason_53 : decode b_M_reason 53 = .ok (.if_icmp .eq 18, 3) := by decide +kernel
theorem d_M_reason_56 : decode b_M_reason 56 = .ok (.iload_n 2, 1) := by decide +kernel
theorem d_M_reason_57 : decode b_M_reason 57 = .ok (.iconst 5, 1) := by decide +kernel
theorem d_M_reason_58 : decode b_M_reason 58 = .ok (.if_icmp .eq 13, 3) := by decide +kernel
theorem d_M_reason_61 : decode b_M_reason 61 = .ok (.iload_n 2, 1) := by decide +kernel
theorem d_M_reason_62 : decode b_M_reason 62 = .ok (.bipush 6, 2) := by decide +kernel
theorem d_M_reason_64 : decode b_M_reason 64 = .ok (.if_icmp .eq 7, 3) := by decide +kernel
theorem d_M_reason_67 : decode b_M_reason 67 = .ok (.iconst 1, 1) := by decide +kernel
theorem d_M_reason_68 : decode b_M_reason 68 = .ok (.goto 4, 3) := by decide +kernel
theorem d_M_reason_71 : decode b_M_reason 71 = .ok (.iconst 0, 1) := by decide +kernel
theorem d_M_reason_72 : decode b_M_reason 72 = .ok (.istore 4, 2) := by decide +kernel
theorem d_M_reason_74 : decode b_M_reason 74 = .ok (.iload 4, 2) := by decide +kernel
theorem d_M_reason_76 : decode b_M_reason 76 = .ok (.ifCond .eq 32, 3) := by decide +kernel
theorem d_M_reason_79 : decode b_M_reason 79 = .ok (.aload_n 0, 1) := by decide +kernel
theorem d_M_reason_80 : decode b_M_reason 80 = .ok (.iload_n 3, 1) := by decide +kernel
theorem d_M_reason_81 : decode b_M_reason 81 = .ok (.invokevirtual 85, 3) := by decide +kernel
theorem d_M_reason_84 : decode b_M_reason 84 = .ok (.ifCond .ne 22, 3) := by decide +kernel
theorem d_M_reason_87 : decode b_M_reason 87 = .ok (.iload_n 2, 1) := by decide +kernel
theorem d_M_reason_88 : decode b_M_reason 88 = .ok (.bipush 8, 2) := by decide +kernel
theorem d_M_reason_90 : decode b_M_reason 90 = .ok (.if_icmp .ne 18, 3) := by decide +kernel
theorem d_M_reason_93 : decode b_M_reason 93 = .ok (.aload_n 0, 1) := by decide +kernel
theorem d_M_reason_94 : decode b_M_reason 94 = .ok (.aload_n 0, 1) := by decide +kernel
theorem d_M_reason_95 : decode b_M_reason 95 = .ok (.getfield 22, 3) := by decide +kernel
theorem d_M_reason_98 : decode b_M_reason 98 = .ok (.iload_n 1, 1) := by decide +kernel
theorem d_M_reason_99 : decode b_M_reason 99 = .ok (.iaload, 1) := by decide +kernel
theorem d_M_reason_100 : decode b_M_reason 100 = .ok (.invokevirtual 85, 3) := by decide +kernel
theorem d_M_reason_103 : decode b_M_reason 103 = .ok (.ifCond .eq 5, 3) := by decide +kernel
theorem d_M_reason_106 : decode b_M_reason 106 = .ok (.iconst 2, 1) := by decide +kernel
theorem d_M_reason_107 : decode b_M_reason 107 = .ok (.ireturn, 1) := by decide +kernel
theorem d_M_reason_108 : decode b_M_reason 108 = .ok (.iload_n 2, 1) := by decide +kernel
theorem d_M_reason_109 : decode b_M_reason 109 = .ok (.tableswitch 212 1 7 #[43, 49, 65, 115, 137, 163, 188], 43) := by decide +kernel
theorem d_M_reason_152 : decode b_M_reason 152 = .ok (.aload_n 0, 1) := by decide +kernel
theorem d_M_reason_153 : decode b_M_reason 153 = .ok (.iload_n 1, 1) := by decide +kernel
theorem d_M_reason_154 : decode b_M_reason 154 = .ok (.invokevirtual 89, 3) := by decide +kernel
theorem d_M_reason_157 : decode b_M_reason 157 = .ok (.ireturn, 1) := by decide +kernel
theorem d_M_reason_158 : decode b_M_reason 158 = .ok (.aload_n 0, 1) := by decide +kernel
theorem d_M_reason_159 : decode b_M_reason 159 = .ok (.getfield 48, 3) := by decide +kernel
theorem d_M_reason_162 : decode b_M_reason 162 = .ok (.iload_n 3, 1) := by decide +kernel
theorem d_M_reason_163 : decode b_M_reason 163 = .ok (.iaload, 1) := by decide +kernel
theorem d_M_reason_164 : decode b_M_reason 164 = .ok (.iconst 4, 1) := by decide +kernel
theorem d_M_reason_165 : decode b_M_reason 165 = .ok (.if_icmp .ne 7, 3) := by decide +kernel
theorem d_M_reason_168 : decode b_M_reason 168 = .ok (.iconst 5, 1) := by decide +kernel
theorem d_M_reason_169 : decode b_M_reason 169 = .ok (.goto 4, 3) := by decide +kernel
theorem d_M_reason_172 : decode b_M_reason 172 = .ok (.iconst 0, 1) := by decide +kernel
theorem d_M_reason_173 : decode b_M_reason 173 = .ok (.ireturn, 1) := by decide +kernel
theorem d_M_reason_174 : decode b_M_reason 174 = .ok (.aload_n 0, 1) := by decide +kernel
theorem d_M_reason_175 : decode b_M_reason 175 = .ok (.getfield 22, 3) := by decide +kernel
theorem d_M_reason_178 : decode b_M_reason 178 = .ok (.iload_n 1, 1) := by decide +kernel
theorem d_M_reason_179 : decode b_M_reason 179 = .ok (.iaload, 1) := by decide +kernel
theorem d_M_reason_180 : decode b_M_reason 180 = .ok (.aload_n 0, 1) := by decide +kernel
theorem d_M_reason_181 : decode b_M_reason 181 = .ok (.getfield 48, 3) := by decide +kernel
theorem d_M_reason_184 : decode b_M_reason 184 = .ok (.iload_n 3, 1) := by decide +kernel
theorem d_M_reason_185 : decode b_M_reason 185 = .ok (.iaload, 1) := by decide +kernel
theorem d_M_reason_186 : decode b_M_reason 186 = .ok (.if_icmp .gt 18, 3) := by decide +kernel
theorem d_M_reason_189 : decode b_M_reason 189 = .ok (.aload_n 0, 1) := by decide +kernel
theorem d_M_reason_190 : decode b_M_reason 190 = .ok (.getfield 25, 3) := by decide +kernel
theorem d_M_reason_193 : decode b_M_reason 193 = .ok (.iload_n 1, 1) := by decide +kernel
theorem d_M_reason_194 : decode b_M_reason 194 = .ok (.iaload, 1) := by decide +kernel
theorem d_M_reason_195 : decode b_M_reason 195 = .ok (.aload_n 0, 1) := by decide +kernel
theorem d_M_reason_196 : decode b_M_reason 196 = .ok (.getfield 48, 3) := by decide +kernel
theorem d_M_reason_199 : decode b_M_reason 199 = .ok (.iload_n 3, 1) := by decide +kernel
theorem d_M_reason_200 : decode b_M_reason 200 = .ok (.iaload, 1) := by decide +kernel
theorem d_M_reason_201 : decode b_M_reason 201 = .ok (.if_icmp .le 8, 3) := by decide +kernel
theorem d_M_reason_204 : decode b_M_reason 204 = .ok (.bipush 6, 2) := by decide +kernel
theorem d_M_reason_206 : decode b_M_reason 206 = .ok (.goto 17, 3) := by decide +kernel
theorem d_M_reason_209 : decode b_M_reason 209 = .ok (.aload_n 0, 1) := by decide +kernel
theorem d_M_reason_210 : decode b_M_reason 210 = .ok (.iload_n 1, 1) := by decide +kernel
theorem d_M_reason_211 : decode b_M_reason 211 = .ok (.invokevirtual 92, 3) := by decide +kernel
theorem d_M_reason_214 : decode b_M_reason 214 = .ok (.ifCond .eq 7, 3) := by decide +kernel
theorem d_M_reason_217 : decode b_M_reason 217 = .ok (.iconst 0, 1) := by decide +kernel
theorem d_M_reason_218 : decode b_M_reason 218 = .ok (.goto 5, 3) := by decide +kernel
theorem d_M_reason_221 : decode b_M_reason 221 = .ok (.bipush 7, 2) := by decide +kernel
theorem d_M_reason_223 : decode b_M_reason 223 = .ok (.ireturn, 1) := by decide +kernel
theorem d_M_reason_224 : decode b_M_reason 224 = .ok (.aload_n 0, 1) := by decide +kernel
theorem d_M_reason_225 : decode b_M_reason 225 = .ok (.getfield 22, 3) := by decide +kernel
theorem d_M_reason_228 : decode b_M_reason 228 = .ok (.iload_n 1, 1) := by decide +kernel
theorem d_M_reason_229 : decode b_M_reason 229 = .ok (.iaload, 1) := by decide +kernel
theorem d_M_reason_230 : decode b_M_reason 230 = .ok (.aload_n 0, 1) := by decide +kernel
theorem d_M_reason_231 : decode b_M_reason 231 = .ok (.getfield 48, 3) := by decide +kernel
theorem d_M_reason_234 : decode b_M_reason 234 = .ok (.iload_n 3, 1) := by decide +kernel
theorem d_M_reason_235 : decode b_M_reason 235 = .ok (.iaload, 1) := by decide +kernel
theorem d_M_reason_236 : decode b_M_reason 236 = .ok (.if_icmp .le 8, 3) := by decide +kernel
theorem d_M_reason_239 : decode b_M_reason 239 = .ok (.bipush 6, 2) := by decide +kernel
theorem d_M_reason_241 : decode b_M_reason 241 = .ok (.goto 4, 3) := by decide +kernel
theorem d_M_reason_244 : decode b_M_reason 244 = .ok (.iconst 0, 1) := by decide +kernel
theorem d_M_reason_245 : decode b_M_reason 245 = .ok (.ireturn, 1) := by decide +kernel
theorem d_M_reason_246 : decode b_M_reason 246 = .ok (.aload_n 0, 1) := by decide +kernel
theorem d_M_reason_247 : decode b_M_reason 247 = .ok (.getfield 57, 3) := by decide +kernel
theorem d_M_reason_250 : decode b_M_reason 250 = .ok (.iload_n 3, 1) := by decide +kernel
theorem d_M_reason_251 : decode b_M_reason 251 = .ok (.iaload, 1) := by decide +kernel
theorem d_M_reason_252 : decode b_M_reason 252 = .ok (.aload_n 0, 1) := by decide +kernel
theorem d_M_reason_253 : decode b_M_reason 253 = .ok (.getfield 22, 3) := by decide +kernel
theorem d_M_reason_256 : decode b_M_reason 256 = .ok (.iload_n 1, 1) := by decide +kernel
theorem d_M_reason_257 : decode b_M_reason 257 = .ok (.iaload, 1) := by decide +kernel
theorem d_M_reason_258 : decode b_M_reason 258 = .ok (.ishr, 1) := by decide +kernel
theorem d_M_reason_259 : decode b_M_reason 259 = .ok (.iconst 1, 1) := by decide +kernel
theorem d_M_reason_260 : decode b_M_reason 260 = .ok (.iand, 1) := by decide +kernel
theorem d_M_reason_261 : decode b_M_reason 261 = .ok (.iconst 1, 1) := by decide +kernel
theorem d_M_reason_262 : decode b_M_reason 262 = .ok (.if_icmp .ne 8, 3) := by decide +kernel
theorem d_M_reason_265 : decode b_M_reason 265 = .ok (.bipush 8, 2) := by decide +kernel
theorem d_M_reason_267 : decode b_M_reason 267 = .ok (.goto 4, 3) := by decide +kernel
theorem d_M_reason_270 : decode b_M_reason 270 = .ok (.iconst 0, 1) := by decide +kernel
theorem d_M_reason_271 : decode b_M_reason 271 = .ok (.ireturn, 1) := by decide +kernel
theorem d_M_reason_272 : decode b_M_reason 272 = .ok (.aload_n 0, 1) := by decide +kernel
theorem d_M_reason_273 : decode b_M_reason 273 = .ok (.getfield 57, 3) := by decide +kernel
theorem d_M_reason_276 : decode b_M_reason 276 = .ok (.iload_n 3, 1) := by decide +kernel
theorem d_M_reason_277 : decode b_M_reason 277 = .ok (.iaload, 1) := by decide +kernel
theorem d_M_reason_278 : decode b_M_reason 278 = .ok (.aload_n 0, 1) := by decide +kernel
theorem d_M_reason_279 : decode b_M_reason 279 = .ok (.getfield 22, 3) := by decide +kernel
theorem d_M_reason_282 : decode b_M_reason 282 = .ok (.iload_n 1, 1) := by decide +kernel
theorem d_M_reason_283 : decode b_M_reason 283 = .ok (.iaload, 1) := by decide +kernel
theorem d_M_reason_284 : decode b_M_reason 284 = .ok (.ishr, 1) := by decide +kernel
theorem d_M_reason_285 : decode b_M_reason 285 = .ok (.iconst 1, 1) := by decide +kernel
theorem d_M_reason_286 : decode b_M_reason 286 = .ok (.iand, 1) := by decide +kernel
theorem d_M_reason_287 : decode b_M_reason 287 = .ok (.ifCond .ne 8, 3) := by decide +kernel
theorem d_M_reason_290 : decode b_M_reason 290 = .ok (.bipush 8, 2) := by decide +kernel
theorem d_M_reason_292 : decode b_M_reason 292 = .ok (.goto 4, 3) := by decide +kernel
theorem d_M_reason_295 : decode b_M_reason 295 = .ok (.iconst 0, 1) := by decide +kernel
theorem d_M_reason_296 : decode b_M_reason 296 = .ok (.ireturn, 1) := by decide +kernel
theorem d_M_reason_297 : decode b_M_reason 297 = .ok (.aload_n 0, 1) := by decide +kernel
theorem d_M_reason_298 : decode b_M_reason 298 = .ok (.getfield 22, 3) := by decide +kernel
theorem d_M_reason_301 : decode b_M_reason 301 = .ok (.iload_n 1, 1) := by decide +kernel
theorem d_M_reason_302 : decode b_M_reason 302 = .ok (.iaload, 1) := by decide +kernel
theorem d_M_reason_303 : decode b_M_reason 303 = .ok (.i2l, 1) := by decide +kernel
theorem d_M_reason_304 : decode b_M_reason 304 = .ok (.aload_n 0, 1) := by decide +kernel
theorem d_M_reason_305 : decode b_M_reason 305 = .ok (.getfield 38, 3) := by decide +kernel
theorem d_M_reason_308 : decode b_M_reason 308 = .ok (.iload_n 3, 1) := by decide +kernel
theorem d_M_reason_309 : decode b_M_reason 309 = .ok (.laload, 1) := by decide +kernel
theorem d_M_reason_310 : decode b_M_reason 310 = .ok (.lcmp, 1) := by decide +kernel
theorem d_M_reason_311 : decode b_M_reason 311 = .ok (.ifCond .lt 8, 3) := by decide +kernel
theorem d_M_reason_314 : decode b_M_reason 314 = .ok (.bipush 9, 2) := by decide +kernel
theorem d_M_reason_316 : decode b_M_reason 316 = .ok (.goto 4, 3) := by decide +kernel
theorem d_M_reason_319 : decode b_M_reason 319 = .ok (.iconst 0, 1) := by decide +kernel
theorem d_M_reason_320 : decode b_M_reason 320 = .ok (.ireturn, 1) := by decide +kernel
theorem d_M_reason_321 : decode b_M_reason 321 = .ok (.aload_n 0, 1) := by decide +kernel
theorem d_M_reason_322 : decode b_M_reason 322 = .ok (.iload_n 3, 1) := by decide +kernel
theorem d_M_reason_323 : decode b_M_reason 323 = .ok (.aload_n 0, 1) := by decide +kernel
theorem d_M_reason_324 : decode b_M_reason 324 = .ok (.getfield 22, 3) := by decide +kernel
theorem d_M_reason_327 : decode b_M_reason 327 = .ok (.iload_n 1, 1) := by decide +kernel
theorem d_M_reason_328 : decode b_M_reason 328 = .ok (.iaload, 1) := by decide +kernel
theorem d_M_reason_329 : decode b_M_reason 329 = .ok (.invokevirtual 95, 3) := by decide +kernel
theorem d_M_reason_332 : decode b_M_reason 332 = .ok (.ifCond .ne 8, 3) := by decide +kernel
theorem d_M_reason_335 : decode b_M_reason 335 = .ok (.bipush 10, 2) := by decide +kernel
theorem d_M_reason_337 : decode b_M_reason 337 = .ok (.goto 23, 3) := by decide +kernel
theorem d_M_reason_340 : decode b_M_reason 340 = .ok (.aload_n 0, 1) := by decide +kernel
theorem d_M_reason_341 : decode b_M_reason 341 = .ok (.iload_n 3, 1) := by decide +kernel
theorem d_M_reason_342 : decode b_M_reason 342 = .ok (.aload_n 0, 1) := by decide +kernel
theorem d_M_reason_343 : decode b_M_reason 343 = .ok (.getfield 22, 3) := by decide +kernel
theorem d_M_reason_346 : decode b_M_reason 346 = .ok (.iload_n 1, 1) := by decide +kernel
theorem d_M_reason_347 : decode b_M_reason 347 = .ok (.iaload, 1) := by decide +kernel
theorem d_M_reason_348 : decode b_M_reason 348 = .ok (.invokevirtual 99, 3) := by decide +kernel
theorem d_M_reason_351 : decode b_M_reason 351 = .ok (.ifCond .ne 8, 3) := by decide +kernel
theorem d_M_reason_354 : decode b_M_reason 354 = .ok (.bipush 11, 2) := by decide +kernel
theorem d_M_reason_356 : decode b_M_reason 356 = .ok (.goto 4, 3) := by decide +kernel
theorem d_M_reason_359 : decode b_M_reason 359 = .ok (.iconst 0, 1) := by decide +kernel
theorem d_M_reason_360 : decode b_M_reason 360 = .ok (.ireturn, 1) := by decide +kernel
theorem d_M_divisor_0 : decode b_M_divisor 0 = .ok (.lload_n 0, 1) := by decide +kernel
theorem d_M_divisor_1 : decode b_M_divisor 1 = .ok (.lstore 4, 2) := by decide +kernel
theorem d_M_divisor_3 : decode b_M_divisor 3 = .ok (.lload_n 2, 1) := by decide +kernel
theorem d_M_divisor_4 : decode b_M_divisor 4 = .ok (.lstore 6, 2) := by decide +kernel
theorem d_M_divisor_6 : decode b_M_divisor 6 = .ok (.lload 6, 2) := by decide +kernel
theorem d_M_divisor_8 : decode b_M_divisor 8 = .ok (.lconst 0, 1) := by decide +kernel
theorem d_M_divisor_9 : decode b_M_divisor 9 = .ok (.lcmp, 1) := by decide +kernel
theorem d_M_divisor_10 : decode b_M_divisor 10 = .ok (.ifCond .eq 21, 3) := by decide +kernel
theorem d_M_divisor_13 : decode b_M_divisor 13 = .ok (.lload 4, 2) := by decide +kernel
theorem d_M_divisor_15 : decode b_M_divisor 15 = .ok (.lload 6, 2) := by decide +kernel
theorem d_M_divisor_17 : decode b_M_divisor 17 = .ok (.lrem, 1) := by decide +kernel
theorem d_M_divisor_18 : decode b_M_divisor 18 = .ok (.lstore 8, 2) := by decide +kernel
theorem d_M_divisor_20 : decode b_M_divisor 20 = .ok (.lload 6, 2) := by decide +kernel
theorem d_M_divisor_22 : decode b_M_divisor 22 = .ok (.lstore 4, 2) := by decide +kernel
theorem d_M_divisor_24 : decode b_M_divisor 24 = .ok (.lload 8, 2) := by decide +kernel
theorem d_M_divisor_26 : decode b_M_divisor 26 = .ok (.lstore 6, 2) := by decide +kernel
theorem d_M_divisor_28 : decode b_M_divisor 28 = .ok (.goto (-22), 3) := by decide +kernel
theorem d_M_divisor_31 : decode b_M_divisor 31 = .ok (.lload 4, 2) := by decide +kernel
theorem d_M_divisor_33 : decode b_M_divisor 33 = .ok (.lreturn, 1) := by decide +kernel
theorem d_M_lowest_0 : decode b_M_lowest 0 = .ok (.lload_n 0, 1) := by decide +kernel
theorem d_M_lowest_1 : decode b_M_lowest 1 = .ok (.lconst 0, 1) := by decide +kernel
theorem d_M_lowest_2 : decode b_M_lowest 2 = .ok (.lcmp, 1) := by decide +kernel
theorem d_M_lowest_3 : decode b_M_lowest 3 = .ok (.ifCond .ne 7, 3) := by decide +kernel
theorem d_M_lowest_6 : decode b_M_lowest 6 = .ok (.lconst 1, 1) := by decide +kernel
theorem d_M_lowest_7 : decode b_M_lowest 7 = .ok (.goto 10, 3) := by decide +kernel
theorem d_M_lowest_10 : decode b_M_lowest 10 = .ok (.lload_n 2, 1) := by decide +kernel
theorem d_M_lowest_11 : decode b_M_lowest 11 = .ok (.lload_n 0, 1) := by decide +kernel
theorem d_M_lowest_12 : decode b_M_lowest 12 = .ok (.lload_n 2, 1) := by decide +kernel
theorem d_M_lowest_13 : decode b_M_lowest 13 = .ok (.invokestatic 102, 3) := by decide +kernel
theorem d_M_lowest_16 : decode b_M_lowest 16 = .ok (.ldiv, 1) := by decide +kernel
theorem d_M_lowest_17 : decode b_M_lowest 17 = .ok (.lreturn, 1) := by decide +kernel
theorem d_M_ofSale_0 : decode b_M_ofSale 0 = .ok (.aload_n 0, 1) := by decide +kernel
theorem d_M_ofSale_1 : decode b_M_ofSale 1 = .ok (.getfield 19, 3) := by decide +kernel
theorem d_M_ofSale_4 : decode b_M_ofSale 4 = .ok (.iload_n 1, 1) := by decide +kernel
theorem d_M_ofSale_5 : decode b_M_ofSale 5 = .ok (.iaload, 1) := by decide +kernel
theorem d_M_ofSale_6 : decode b_M_ofSale 6 = .ok (.istore_n 2, 1) := by decide +kernel
theorem d_M_ofSale_7 : decode b_M_ofSale 7 = .ok (.bipush 8, 2) := by decide +kernel
theorem d_M_ofSale_9 : decode b_M_ofSale 9 = .ok (.iload_n 2, 1) := by decide +kernel
theorem d_M_ofSale_10 : decode b_M_ofSale 10 = .ok (.imul, 1) := by decide +kernel
theorem d_M_ofSale_11 : decode b_M_ofSale 11 = .ok (.aload_n 0, 1) := by decide +kernel
theorem d_M_ofSale_12 : decode b_M_ofSale 12 = .ok (.getfield 22, 3) := by decide +kernel
theorem d_M_ofSale_15 : decode b_M_ofSale 15 = .ok (.iload_n 1, 1) := by decide +kernel
theorem d_M_ofSale_16 : decode b_M_ofSale 16 = .ok (.iaload, 1) := by decide +kernel
theorem d_M_ofSale_17 : decode b_M_ofSale 17 = .ok (.bipush 8, 2) := by decide +kernel
theorem d_M_ofSale_19 : decode b_M_ofSale 19 = .ok (.idiv, 1) := by decide +kernel
theorem d_M_ofSale_20 : decode b_M_ofSale 20 = .ok (.iadd, 1) := by decide +kernel
theorem d_M_ofSale_21 : decode b_M_ofSale 21 = .ok (.istore_n 3, 1) := by decide +kernel
theorem d_M_ofSale_22 : decode b_M_ofSale 22 = .ok (.bipush 8, 2) := by decide +kernel
theorem d_M_ofSale_24 : decode b_M_ofSale 24 = .ok (.iload_n 2, 1) := by decide +kernel
theorem d_M_ofSale_25 : decode b_M_ofSale 25 = .ok (.imul, 1) := by decide +kernel
theorem d_M_ofSale_26 : decode b_M_ofSale 26 = .ok (.aload_n 0, 1) := by decide +kernel
theorem d_M_ofSale_27 : decode b_M_ofSale 27 = .ok (.getfield 22, 3) := by decide +kernel
theorem d_M_ofSale_30 : decode b_M_ofSale 30 = .ok (.iload_n 1, 1) := by decide +kernel
theorem d_M_ofSale_31 : decode b_M_ofSale 31 = .ok (.iaload, 1) := by decide +kernel
theorem d_M_ofSale_32 : decode b_M_ofSale 32 = .ok (.bipush 8, 2) := by decide +kernel
theorem d_M_ofSale_34 : decode b_M_ofSale 34 = .ok (.irem, 1) := by decide +kernel
theorem d_M_ofSale_35 : decode b_M_ofSale 35 = .ok (.iadd, 1) := by decide +kernel
theorem d_M_ofSale_36 : decode b_M_ofSale 36 = .ok (.istore 4, 2) := by decide +kernel
theorem d_M_ofSale_38 : decode b_M_ofSale 38 = .ok (.aload_n 0, 1) := by decide +kernel
theorem d_M_ofSale_39 : decode b_M_ofSale 39 = .ok (.getfield 25, 3) := by decide +kernel
theorem d_M_ofSale_42 : decode b_M_ofSale 42 = .ok (.iload_n 1, 1) := by decide +kernel
theorem d_M_ofSale_43 : decode b_M_ofSale 43 = .ok (.iaload, 1) := by decide +kernel
theorem d_M_ofSale_44 : decode b_M_ofSale 44 = .ok (.i2l, 1) := by decide +kernel
theorem d_M_ofSale_45 : decode b_M_ofSale 45 = .ok (.lstore 5, 2) := by decide +kernel
theorem d_M_ofSale_47 : decode b_M_ofSale 47 = .ok (.aload_n 0, 1) := by decide +kernel
theorem d_M_ofSale_48 : decode b_M_ofSale 48 = .ok (.getfield 28, 3) := by decide +kernel
theorem d_M_ofSale_51 : decode b_M_ofSale 51 = .ok (.iload_n 1, 1) := by decide +kernel
theorem d_M_ofSale_52 : decode b_M_ofSale 52 = .ok (.iaload, 1) := by decide +kernel
theorem d_M_ofSale_53 : decode b_M_ofSale 53 = .ok (.i2l, 1) := by decide +kernel
theorem d_M_ofSale_54 : decode b_M_ofSale 54 = .ok (.lstore 7, 2) := by decide +kernel
theorem d_M_ofSale_56 : decode b_M_ofSale 56 = .ok (.aload_n 0, 1) := by decide +kernel
theorem d_M_ofSale_57 : decode b_M_ofSale 57 = .ok (.getfield 42, 3) := by decide +kernel
theorem d_M_ofSale_60 : decode b_M_ofSale 60 = .ok (.iload_n 3, 1) := by decide +kernel
theorem d_M_ofSale_61 : decode b_M_ofSale 61 = .ok (.laload, 1) := by decide +kernel
theorem d_M_ofSale_62 : decode b_M_ofSale 62 = .ok (.lload 7, 2) := by decide +kernel
theorem d_M_ofSale_64 : decode b_M_ofSale 64 = .ok (.lmul, 1) := by decide +kernel
theorem d_M_ofSale_65 : decode b_M_ofSale 65 = .ok (.lload 5, 2) := by decide +kernel
theorem d_M_ofSale_67 : decode b_M_ofSale 67 = .ok (.aload_n 0, 1) := by decide +kernel
theorem d_M_ofSale_68 : decode b_M_ofSale 68 = .ok (.getfield 45, 3) := by decide +kernel
theorem d_M_ofSale_71 : decode b_M_ofSale 71 = .ok (.iload_n 3, 1) := by decide +kernel
theorem d_M_ofSale_72 : decode b_M_ofSale 72 = .ok (.laload, 1) := by decide +kernel
theorem d_M_ofSale_73 : decode b_M_ofSale 73 = .ok (.lmul, 1) := by decide +kernel
theorem d_M_ofSale_74 : decode b_M_ofSale 74 = .ok (.lsub, 1) := by decide +kernel
theorem d_M_ofSale_75 : decode b_M_ofSale 75 = .ok (.lstore 9, 2) := by decide +kernel
theorem d_M_ofSale_77 : decode b_M_ofSale 77 = .ok (.aload_n 0, 1) := by decide +kernel
theorem d_M_ofSale_78 : decode b_M_ofSale 78 = .ok (.getfield 42, 3) := by decide +kernel
theorem d_M_ofSale_81 : decode b_M_ofSale 81 = .ok (.iload_n 3, 1) := by decide +kernel
theorem d_M_ofSale_82 : decode b_M_ofSale 82 = .ok (.laload, 1) := by decide +kernel
theorem d_M_ofSale_83 : decode b_M_ofSale 83 = .ok (.lconst 0, 1) := by decide +kernel
theorem d_M_ofSale_84 : decode b_M_ofSale 84 = .ok (.lcmp, 1) := by decide +kernel
theorem d_M_ofSale_85 : decode b_M_ofSale 85 = .ok (.ifCond .eq 10, 3) := by decide +kernel
theorem d_M_ofSale_88 : decode b_M_ofSale 88 = .ok (.lload 9, 2) := by decide +kernel
theorem d_M_ofSale_90 : decode b_M_ofSale 90 = .ok (.lconst 0, 1) := by decide +kernel
theorem d_M_ofSale_91 : decode b_M_ofSale 91 = .ok (.lcmp, 1) := by decide +kernel
theorem d_M_ofSale_92 : decode b_M_ofSale 92 = .ok (.ifCond .ge 5, 3) := by decide +kernel
theorem d_M_ofSale_95 : decode b_M_ofSale 95 = .ok (.iconst 3, 1) := by decide +kernel
theorem d_M_ofSale_96 : decode b_M_ofSale 96 = .ok (.ireturn, 1) := by decide +kernel
theorem d_M_ofSale_97 : decode b_M_ofSale 97 = .ok (.aload_n 0, 1) := by decide +kernel
theorem d_M_ofSale_98 : decode b_M_ofSale 98 = .ok (.getfield 42, 3) := by decide +kernel
theorem d_M_ofSale_101 : decode b_M_ofSale 101 = .ok (.iload 4, 2) := by decide +kernel
theorem d_M_ofSale_103 : decode b_M_ofSale 103 = .ok (.laload, 1) := by decide +kernel
theorem d_M_ofSale_104 : decode b_M_ofSale 104 = .ok (.lload 7, 2) := by decide +kernel
theorem d_M_ofSale_106 : decode b_M_ofSale 106 = .ok (.lmul, 1) := by decide +kernel
theorem d_M_ofSale_107 : decode b_M_ofSale 107 = .ok (.lload 5, 2) := by decide +kernel
theorem d_M_ofSale_109 : decode b_M_ofSale 109 = .ok (.aload_n 0, 1) := by decide +kernel
theorem d_M_ofSale_110 : decode b_M_ofSale 110 = .ok (.getfield 45, 3) := by decide +kernel
theorem d_M_ofSale_113 : decode b_M_ofSale 113 = .ok (.iload 4, 2) := by decide +kernel
theorem d_M_ofSale_115 : decode b_M_ofSale 115 = .ok (.laload, 1) := by decide +kernel
theorem d_M_ofSale_116 : decode b_M_ofSale 116 = .ok (.lmul, 1) := by decide +kernel
theorem d_M_ofSale_117 : decode b_M_ofSale 117 = .ok (.ladd, 1) := by decide +kernel
theorem d_M_ofSale_118 : decode b_M_ofSale 118 = .ok (.lstore 11, 2) := by decide +kernel
theorem d_M_ofSale_120 : decode b_M_ofSale 120 = .ok (.lload 9, 2) := by decide +kernel
theorem d_M_ofSale_122 : decode b_M_ofSale 122 = .ok (.aload_n 0, 1) := by decide +kernel
theorem d_M_ofSale_123 : decode b_M_ofSale 123 = .ok (.getfield 45, 3) := by decide +kernel
theorem d_M_ofSale_126 : decode b_M_ofSale 126 = .ok (.iload_n 3, 1) := by decide +kernel
theorem d_M_ofSale_127 : decode b_M_ofSale 127 = .ok (.laload, 1) := by decide +kernel
theorem d_M_ofSale_128 : decode b_M_ofSale 128 = .ok (.lload 7, 2) := by decide +kernel
theorem d_M_ofSale_130 : decode b_M_ofSale 130 = .ok (.lmul, 1) := by decide +kernel
theorem d_M_ofSale_131 : decode b_M_ofSale 131 = .ok (.invokestatic 106, 3) := by decide +kernel
theorem d_M_ofSale_134 : decode b_M_ofSale 134 = .ok (.ldc2_w 109, 3) := by decide +kernel
theorem d_M_ofSale_137 : decode b_M_ofSale 137 = .ok (.lcmp, 1) := by decide +kernel
theorem d_M_ofSale_138 : decode b_M_ofSale 138 = .ok (.ifCond .gt 25, 3) := by decide +kernel
theorem d_M_ofSale_141 : decode b_M_ofSale 141 = .ok (.lload 11, 2) := by decide +kernel
theorem d_M_ofSale_143 : decode b_M_ofSale 143 = .ok (.aload_n 0, 1) := by decide +kernel
theorem d_M_ofSale_144 : decode b_M_ofSale 144 = .ok (.getfield 45, 3) := by decide +kernel
theorem d_M_ofSale_147 : decode b_M_ofSale 147 = .ok (.iload 4, 2) := by decide +kernel
theorem d_M_ofSale_149 : decode b_M_ofSale 149 = .ok (.laload, 1) := by decide +kernel
theorem d_M_ofSale_150 : decode b_M_ofSale 150 = .ok (.lload 7, 2) := by decide +kernel
theorem d_M_ofSale_152 : decode b_M_ofSale 152 = .ok (.lmul, 1) := by decide +kernel
theorem d_M_ofSale_153 : decode b_M_ofSale 153 = .ok (.invokestatic 106, 3) := by decide +kernel
theorem d_M_ofSale_156 : decode b_M_ofSale 156 = .ok (.ldc2_w 109, 3) := by decide +kernel
theorem d_M_ofSale_159 : decode b_M_ofSale 159 = .ok (.lcmp, 1) := by decide +kernel
theorem d_M_ofSale_160 : decode b_M_ofSale 160 = .ok (.ifCond .le 7, 3) := by decide +kernel
theorem d_M_ofSale_163 : decode b_M_ofSale 163 = .ok (.iconst 1, 1) := by decide +kernel
theorem d_M_ofSale_164 : decode b_M_ofSale 164 = .ok (.goto 4, 3) := by decide +kernel
theorem d_M_ofSale_167 : decode b_M_ofSale 167 = .ok (.iconst 0, 1) := by decide +kernel
theorem d_M_ofSale_168 : decode b_M_ofSale 168 = .ok (.istore 13, 2) := by decide +kernel
theorem d_M_ofSale_170 : decode b_M_ofSale 170 = .ok (.iload 13, 2) := by decide +kernel
theorem d_M_ofSale_172 : decode b_M_ofSale 172 = .ok (.ifCond .eq 7, 3) := by decide +kernel
theorem d_M_ofSale_175 : decode b_M_ofSale 175 = .ok (.iconst 4, 1) := by decide +kernel
theorem d_M_ofSale_176 : decode b_M_ofSale 176 = .ok (.goto 4, 3) := by decide +kernel
theorem d_M_ofSale_179 : decode b_M_ofSale 179 = .ok (.iconst 0, 1) := by decide +kernel
theorem d_M_ofSale_180 : decode b_M_ofSale 180 = .ok (.ireturn, 1) := by decide +kernel
theorem d_M_agreed_0 : decode b_M_agreed 0 = .ok (.aload_n 0, 1) := by decide +kernel
theorem d_M_agreed_1 : decode b_M_agreed 1 = .ok (.getfield 19, 3) := by decide +kernel
theorem d_M_agreed_4 : decode b_M_agreed 4 = .ok (.iload_n 1, 1) := by decide +kernel
theorem d_M_agreed_5 : decode b_M_agreed 5 = .ok (.iaload, 1) := by decide +kernel
theorem d_M_agreed_6 : decode b_M_agreed 6 = .ok (.istore_n 2, 1) := by decide +kernel
theorem d_M_agreed_7 : decode b_M_agreed 7 = .ok (.aload_n 0, 1) := by decide +kernel
theorem d_M_agreed_8 : decode b_M_agreed 8 = .ok (.getfield 22, 3) := by decide +kernel
theorem d_M_agreed_11 : decode b_M_agreed 11 = .ok (.iload_n 1, 1) := by decide +kernel
theorem d_M_agreed_12 : decode b_M_agreed 12 = .ok (.iaload, 1) := by decide +kernel
theorem d_M_agreed_13 : decode b_M_agreed 13 = .ok (.istore_n 3, 1) := by decide +kernel
theorem d_M_agreed_14 : decode b_M_agreed 14 = .ok (.aload_n 0, 1) := by decide +kernel
theorem d_M_agreed_15 : decode b_M_agreed 15 = .ok (.getfield 25, 3) := by decide +kernel
theorem d_M_agreed_18 : decode b_M_agreed 18 = .ok (.iload_n 1, 1) := by decide +kernel
theorem d_M_agreed_19 : decode b_M_agreed 19 = .ok (.iaload, 1) := by decide +kernel
theorem d_M_agreed_20 : decode b_M_agreed 20 = .ok (.istore 4, 2) := by decide +kernel
theorem d_M_agreed_22 : decode b_M_agreed 22 = .ok (.iconst 0, 1) := by decide +kernel
theorem d_M_agreed_23 : decode b_M_agreed 23 = .ok (.istore 5, 2) := by decide +kernel
theorem d_M_agreed_25 : decode b_M_agreed 25 = .ok (.iconst 0, 1) := by decide +kernel
theorem d_M_agreed_26 : decode b_M_agreed 26 = .ok (.istore 6, 2) := by decide +kernel
theorem d_M_agreed_28 : decode b_M_agreed 28 = .ok (.iconst 1, 1) := by decide +kernel
theorem d_M_agreed_29 : decode b_M_agreed 29 = .ok (.istore 7, 2) := by decide +kernel
theorem d_M_agreed_31 : decode b_M_agreed 31 = .ok (.iload 7, 2) := by decide +kernel
theorem d_M_agreed_33 : decode b_M_agreed 33 = .ok (.aload_n 0, 1) := by decide +kernel
theorem d_M_agreed_34 : decode b_M_agreed 34 = .ok (.getfield 48, 3) := by decide +kernel
theorem d_M_agreed_37 : decode b_M_agreed 37 = .ok (.iload_n 2, 1) := by decide +kernel
theorem d_M_agreed_38 : decode b_M_agreed 38 = .ok (.iaload, 1) := by decide +kernel
theorem d_M_agreed_39 : decode b_M_agreed 39 = .ok (.if_icmp .gt 154, 3) := by decide +kernel
theorem d_M_agreed_42 : decode b_M_agreed 42 = .ok (.iconst 1, 1) := by decide +kernel
theorem d_M_agreed_43 : decode b_M_agreed 43 = .ok (.aload_n 0, 1) := by decide +kernel
theorem d_M_agreed_44 : decode b_M_agreed 44 = .ok (.getfield 51, 3) := by decide +kernel
theorem d_M_agreed_47 : decode b_M_agreed 47 = .ok (.iconst 4, 1) := by decide +kernel
theorem d_M_agreed_48 : decode b_M_agreed 48 = .ok (.iload_n 2, 1) := by decide +kernel
theorem d_M_agreed_49 : decode b_M_agreed 49 = .ok (.imul, 1) := by decide +kernel
theorem d_M_agreed_50 : decode b_M_agreed 50 = .ok (.iload 7, 2) := by decide +kernel
theorem d_M_agreed_52 : decode b_M_agreed 52 = .ok (.iadd, 1) := by decide +kernel
theorem d_M_agreed_53 : decode b_M_agreed 53 = .ok (.iconst 1, 1) := by decide +kernel
theorem d_M_agreed_54 : decode b_M_agreed 54 = .ok (.isub, 1) := by decide +kernel
theorem d_M_agreed_55 : decode b_M_agreed 55 = .ok (.iaload, 1) := by decide +kernel
theorem d_M_agreed_56 : decode b_M_agreed 56 = .ok (.ishl, 1) := by decide +kernel
theorem d_M_agreed_57 : decode b_M_agreed 57 = .ok (.istore 8, 2) := by decide +kernel
theorem d_M_agreed_59 : decode b_M_agreed 59 = .ok (.iload 7, 2) := by decide +kernel
theorem d_M_agreed_61 : decode b_M_agreed 61 = .ok (.iload_n 3, 1) := by decide +kernel
theorem d_M_agreed_62 : decode b_M_agreed 62 = .ok (.if_icmp .ne 7, 3) := by decide +kernel
theorem d_M_agreed_65 : decode b_M_agreed 65 = .ok (.iconst 1, 1) := by decide +kernel
theorem d_M_agreed_66 : decode b_M_agreed 66 = .ok (.goto 4, 3) := by decide +kernel
theorem d_M_agreed_69 : decode b_M_agreed 69 = .ok (.iconst 0, 1) := by decide +kernel
theorem d_M_agreed_70 : decode b_M_agreed 70 = .ok (.istore 9, 2) := by decide +kernel
theorem d_M_agreed_72 : decode b_M_agreed 72 = .ok (.iload_n 3, 1) := by decide +kernel
theorem d_M_agreed_73 : decode b_M_agreed 73 = .ok (.iload 4, 2) := by decide +kernel
theorem d_M_agreed_75 : decode b_M_agreed 75 = .ok (.if_icmp .ge 24, 3) := by decide +kernel
theorem d_M_agreed_78 : decode b_M_agreed 78 = .ok (.iload 7, 2) := by decide +kernel
theorem d_M_agreed_80 : decode b_M_agreed 80 = .ok (.iload_n 3, 1) := by decide +kernel
theorem d_M_agreed_81 : decode b_M_agreed 81 = .ok (.if_icmp .le 14, 3) := by decide +kernel
theorem d_M_agreed_84 : decode b_M_agreed 84 = .ok (.iload 7, 2) := by decide +kernel
theorem d_M_agreed_86 : decode b_M_agreed 86 = .ok (.iload 4, 2) := by decide +kernel
theorem d_M_agreed_88 : decode b_M_agreed 88 = .ok (.if_icmp .gt 7, 3) := by decide +kernel
theorem d_M_agreed_91 : decode b_M_agreed 91 = .ok (.iconst 1, 1) := by decide +kernel
theorem d_M_agreed_92 : decode b_M_agreed 92 = .ok (.goto 25, 3) := by decide +kernel
theorem d_M_agreed_95 : decode b_M_agreed 95 = .ok (.iconst 0, 1) := by decide +kernel
theorem d_M_agreed_96 : decode b_M_agreed 96 = .ok (.goto 21, 3) := by decide +kernel
theorem d_M_agreed_99 : decode b_M_agreed 99 = .ok (.iload 7, 2) := by decide +kernel
theorem d_M_agreed_101 : decode b_M_agreed 101 = .ok (.iload 4, 2) := by decide +kernel
theorem d_M_agreed_103 : decode b_M_agreed 103 = .ok (.if_icmp .lt 13, 3) := by decide +kernel
theorem d_M_agreed_106 : decode b_M_agreed 106 = .ok (.iload 7, 2) := by decide +kernel
theorem d_M_agreed_108 : decode b_M_agreed 108 = .ok (.iload_n 3, 1) := by decide +kernel
theorem d_M_agreed_109 : decode b_M_agreed 109 = .ok (.if_icmp .ge 7, 3) := by decide +kernel
theorem d_M_agreed_112 : decode b_M_agreed 112 = .ok (.iconst 1, 1) := by decide +kernel
theorem d_M_agreed_113 : decode b_M_agreed 113 = .ok (.goto 4, 3) := by decide +kernel
theorem d_M_agreed_116 : decode b_M_agreed 116 = .ok (.iconst 0, 1) := by decide +kernel
theorem d_M_agreed_117 : decode b_M_agreed 117 = .ok (.istore 10, 2) := by decide +kernel
theorem d_M_agreed_119 : decode b_M_agreed 119 = .ok (.iload 9, 2) := by decide +kernel
theorem d_M_agreed_121 : decode b_M_agreed 121 = .ok (.ifCond .eq 9, 3) := by decide +kernel
theorem d_M_agreed_124 : decode b_M_agreed 124 = .ok (.iload 4, 2) := by decide +kernel
theorem d_M_agreed_126 : decode b_M_agreed 126 = .ok (.iload_n 3, 1) := by decide +kernel
theorem d_M_agreed_127 : decode b_M_agreed 127 = .ok (.if_icmp .gt 14, 3) := by decide +kernel
theorem d_M_agreed_130 : decode b_M_agreed 130 = .ok (.iload 10, 2) := by decide +kernel
theorem d_M_agreed_132 : decode b_M_agreed 132 = .ok (.ifCond .eq 17, 3) := by decide +kernel
theorem d_M_agreed_135 : decode b_M_agreed 135 = .ok (.iload 4, 2) := by decide +kernel
theorem d_M_agreed_137 : decode b_M_agreed 137 = .ok (.iload_n 3, 1) := by decide +kernel
theorem d_M_agreed_138 : decode b_M_agreed 138 = .ok (.if_icmp .ge 11, 3) := by decide +kernel
theorem d_M_agreed_141 : decode b_M_agreed 141 = .ok (.iload 5, 2) := by decide +kernel
theorem d_M_agreed_143 : decode b_M_agreed 143 = .ok (.iload 8, 2) := by decide +kernel
theorem d_M_agreed_145 : decode b_M_agreed 145 = .ok (.ior, 1) := by decide +kernel
theorem d_M_agreed_146 : decode b_M_agreed 146 = .ok (.goto 5, 3) := by decide +kernel
theorem d_M_agreed_149 : decode b_M_agreed 149 = .ok (.iload 5, 2) := by decide +kernel
theorem d_M_agreed_151 : decode b_M_agreed 151 = .ok (.istore 5, 2) := by decide +kernel
theorem d_M_agreed_153 : decode b_M_agreed 153 = .ok (.iload 9, 2) := by decide +kernel
theorem d_M_agreed_155 : decode b_M_agreed 155 = .ok (.ifCond .eq 9, 3) := by decide +kernel
theorem d_M_agreed_158 : decode b_M_agreed 158 = .ok (.iload 4, 2) := by decide +kernel
theorem d_M_agreed_160 : decode b_M_agreed 160 = .ok (.iload_n 3, 1) := by decide +kernel
theorem d_M_agreed_161 : decode b_M_agreed 161 = .ok (.if_icmp .lt 14, 3) := by decide +kernel
theorem d_M_agreed_164 : decode b_M_agreed 164 = .ok (.iload 10, 2) := by decide +kernel
theorem d_M_agreed_166 : decode b_M_agreed 166 = .ok (.ifCond .eq 17, 3) := by decide +kernel
theorem d_M_agreed_169 : decode b_M_agreed 169 = .ok (.iload 4, 2) := by decide +kernel
theorem d_M_agreed_171 : decode b_M_agreed 171 = .ok (.iload_n 3, 1) := by decide +kernel
theorem d_M_agreed_172 : decode b_M_agreed 172 = .ok (.if_icmp .le 11, 3) := by decide +kernel
theorem d_M_agreed_175 : decode b_M_agreed 175 = .ok (.iload 6, 2) := by decide +kernel
theorem d_M_agreed_177 : decode b_M_agreed 177 = .ok (.iload 8, 2) := by decide +kernel
theorem d_M_agreed_179 : decode b_M_agreed 179 = .ok (.ior, 1) := by decide +kernel
theorem d_M_agreed_180 : decode b_M_agreed 180 = .ok (.goto 5, 3) := by decide +kernel
theorem d_M_agreed_183 : decode b_M_agreed 183 = .ok (.iload 6, 2) := by decide +kernel
theorem d_M_agreed_185 : decode b_M_agreed 185 = .ok (.istore 6, 2) := by decide +kernel
theorem d_M_agreed_187 : decode b_M_agreed 187 = .ok (.iinc 7 1, 3) := by decide +kernel
theorem d_M_agreed_190 : decode b_M_agreed 190 = .ok (.goto (-159), 3) := by decide +kernel
theorem d_M_agreed_193 : decode b_M_agreed 193 = .ok (.iload 5, 2) := by decide +kernel
theorem d_M_agreed_195 : decode b_M_agreed 195 = .ok (.iload 6, 2) := by decide +kernel
theorem d_M_agreed_197 : decode b_M_agreed 197 = .ok (.iconst (-1), 1) := by decide +kernel
theorem d_M_agreed_198 : decode b_M_agreed 198 = .ok (.ixor, 1) := by decide +kernel
theorem d_M_agreed_199 : decode b_M_agreed 199 = .ok (.iand, 1) := by decide +kernel
theorem d_M_agreed_200 : decode b_M_agreed 200 = .ok (.aload_n 0, 1) := by decide +kernel
theorem d_M_agreed_201 : decode b_M_agreed 201 = .ok (.getfield 28, 3) := by decide +kernel
theorem d_M_agreed_204 : decode b_M_agreed 204 = .ok (.iload_n 1, 1) := by decide +kernel
theorem d_M_agreed_205 : decode b_M_agreed 205 = .ok (.iaload, 1) := by decide +kernel
theorem d_M_agreed_206 : decode b_M_agreed 206 = .ok (.iconst (-1), 1) := by decide +kernel
theorem d_M_agreed_207 : decode b_M_agreed 207 = .ok (.ixor, 1) := by decide +kernel
theorem d_M_agreed_208 : decode b_M_agreed 208 = .ok (.iand, 1) := by decide +kernel
theorem d_M_agreed_209 : decode b_M_agreed 209 = .ok (.ifCond .ne 7, 3) := by decide +kernel
theorem d_M_agreed_212 : decode b_M_agreed 212 = .ok (.iconst 1, 1) := by decide +kernel
theorem d_M_agreed_213 : decode b_M_agreed 213 = .ok (.goto 4, 3) := by decide +kernel
theorem d_M_agreed_216 : decode b_M_agreed 216 = .ok (.iconst 0, 1) := by decide +kernel
theorem d_M_agreed_217 : decode b_M_agreed 217 = .ok (.ireturn, 1) := by decide +kernel
theorem d_M_sameShares_0 : decode b_M_sameShares 0 = .ok (.iconst 1, 1) := by decide +kernel
theorem d_M_sameShares_1 : decode b_M_sameShares 1 = .ok (.istore_n 3, 1) := by decide +kernel
theorem d_M_sameShares_2 : decode b_M_sameShares 2 = .ok (.iconst 0, 1) := by decide +kernel
theorem d_M_sameShares_3 : decode b_M_sameShares 3 = .ok (.istore 4, 2) := by decide +kernel
theorem d_M_sameShares_5 : decode b_M_sameShares 5 = .ok (.iload 4, 2) := by decide +kernel
theorem d_M_sameShares_7 : decode b_M_sameShares 7 = .ok (.bipush 8, 2) := by decide +kernel
theorem d_M_sameShares_9 : decode b_M_sameShares 9 = .ok (.if_icmp .ge 92, 3) := by decide +kernel
theorem d_M_sameShares_12 : decode b_M_sameShares 12 = .ok (.iload_n 3, 1) := by decide +kernel
theorem d_M_sameShares_13 : decode b_M_sameShares 13 = .ok (.ifCond .eq 80, 3) := by decide +kernel
theorem d_M_sameShares_16 : decode b_M_sameShares 16 = .ok (.aload_n 0, 1) := by decide +kernel
theorem d_M_sameShares_17 : decode b_M_sameShares 17 = .ok (.getfield 42, 3) := by decide +kernel
theorem d_M_sameShares_20 : decode b_M_sameShares 20 = .ok (.bipush 8, 2) := by decide +kernel
theorem d_M_sameShares_22 : decode b_M_sameShares 22 = .ok (.iload_n 1, 1) := by decide +kernel
theorem d_M_sameShares_23 : decode b_M_sameShares 23 = .ok (.imul, 1) := by decide +kernel
theorem d_M_sameShares_24 : decode b_M_sameShares 24 = .ok (.iload 4, 2) := by decide +kernel
theorem d_M_sameShares_26 : decode b_M_sameShares 26 = .ok (.iadd, 1) := by decide +kernel
theorem d_M_sameShares_27 : decode b_M_sameShares 27 = .ok (.laload, 1) := by decide +kernel
theorem d_M_sameShares_28 : decode b_M_sameShares 28 = .ok (.aload_n 0, 1) := by decide +kernel
theorem d_M_sameShares_29 : decode b_M_sameShares 29 = .ok (.getfield 42, 3) := by decide +kernel
theorem d_M_sameShares_32 : decode b_M_sameShares 32 = .ok (.bipush 8, 2) := by decide +kernel
theorem d_M_sameShares_34 : decode b_M_sameShares 34 = .ok (.iload_n 2, 1) := by decide +kernel
theorem d_M_sameShares_35 : decode b_M_sameShares 35 = .ok (.imul, 1) := by decide +kernel
theorem d_M_sameShares_36 : decode b_M_sameShares 36 = .ok (.iload 4, 2) := by decide +kernel
theorem d_M_sameShares_38 : decode b_M_sameShares 38 = .ok (.iadd, 1) := by decide +kernel
theorem d_M_sameShares_39 : decode b_M_sameShares 39 = .ok (.laload, 1) := by decide +kernel
theorem d_M_sameShares_40 : decode b_M_sameShares 40 = .ok (.lcmp, 1) := by decide +kernel
theorem d_M_sameShares_41 : decode b_M_sameShares 41 = .ok (.ifCond .ne 52, 3) := by decide +kernel
theorem d_M_sameShares_44 : decode b_M_sameShares 44 = .ok (.aload_n 0, 1) := by decide +kernel
theorem d_M_sameShares_45 : decode b_M_sameShares 45 = .ok (.getfield 42, 3) := by decide +kernel
theorem d_M_sameShares_48 : decode b_M_sameShares 48 = .ok (.bipush 8, 2) := by decide +kernel
theorem d_M_sameShares_50 : decode b_M_sameShares 50 = .ok (.iload_n 1, 1) := by decide +kernel
theorem d_M_sameShares_51 : decode b_M_sameShares 51 = .ok (.imul, 1) := by decide +kernel
theorem d_M_sameShares_52 : decode b_M_sameShares 52 = .ok (.iload 4, 2) := by decide +kernel
theorem d_M_sameShares_54 : decode b_M_sameShares 54 = .ok (.iadd, 1) := by decide +kernel
theorem d_M_sameShares_55 : decode b_M_sameShares 55 = .ok (.laload, 1) := by decide +kernel
theorem d_M_sameShares_56 : decode b_M_sameShares 56 = .ok (.lconst 0, 1) := by decide +kernel
theorem d_M_sameShares_57 : decode b_M_sameShares 57 = .ok (.lcmp, 1) := by decide +kernel
theorem d_M_sameShares_58 : decode b_M_sameShares 58 = .ok (.ifCond .eq 31, 3) := by decide +kernel
theorem d_M_sameShares_61 : decode b_M_sameShares 61 = .ok (.aload_n 0, 1) := by decide +kernel
theorem d_M_sameShares_62 : decode b_M_sameShares 62 = .ok (.getfield 45, 3) := by decide +kernel
theorem d_M_sameShares_65 : decode b_M_sameShares 65 = .ok (.bipush 8, 2) := by decide +kernel
theorem d_M_sameShares_67 : decode b_M_sameShares 67 = .ok (.iload_n 1, 1) := by decide +kernel
theorem d_M_sameShares_68 : decode b_M_sameShares 68 = .ok (.imul, 1) := by decide +kernel
theorem d_M_sameShares_69 : decode b_M_sameShares 69 = .ok (.iload 4, 2) := by decide +kernel
theorem d_M_sameShares_71 : decode b_M_sameShares 71 = .ok (.iadd, 1) := by decide +kernel
theorem d_M_sameShares_72 : decode b_M_sameShares 72 = .ok (.laload, 1) := by decide +kernel
theorem d_M_sameShares_73 : decode b_M_sameShares 73 = .ok (.aload_n 0, 1) := by decide +kernel
theorem d_M_sameShares_74 : decode b_M_sameShares 74 = .ok (.getfield 45, 3) := by decide +kernel
theorem d_M_sameShares_77 : decode b_M_sameShares 77 = .ok (.bipush 8, 2) := by decide +kernel
theorem d_M_sameShares_79 : decode b_M_sameShares 79 = .ok (.iload_n 2, 1) := by decide +kernel
theorem d_M_sameShares_80 : decode b_M_sameShares 80 = .ok (.imul, 1) := by decide +kernel
theorem d_M_sameShares_81 : decode b_M_sameShares 81 = .ok (.iload 4, 2) := by decide +kernel
theorem d_M_sameShares_83 : decode b_M_sameShares 83 = .ok (.iadd, 1) := by decide +kernel
theorem d_M_sameShares_84 : decode b_M_sameShares 84 = .ok (.laload, 1) := by decide +kernel
theorem d_M_sameShares_85 : decode b_M_sameShares 85 = .ok (.lcmp, 1) := by decide +kernel
theorem d_M_sameShares_86 : decode b_M_sameShares 86 = .ok (.ifCond .ne 7, 3) := by decide +kernel
theorem d_M_sameShares_89 : decode b_M_sameShares 89 = .ok (.iconst 1, 1) := by decide +kernel
theorem d_M_sameShares_90 : decode b_M_sameShares 90 = .ok (.goto 4, 3) := by decide +kernel
theorem d_M_sameShares_93 : decode b_M_sameShares 93 = .ok (.iconst 0, 1) := by decide +kernel
theorem d_M_sameShares_94 : decode b_M_sameShares 94 = .ok (.istore_n 3, 1) := by decide +kernel
theorem d_M_sameShares_95 : decode b_M_sameShares 95 = .ok (.iinc 4 1, 3) := by decide +kernel
theorem d_M_sameShares_98 : decode b_M_sameShares 98 = .ok (.goto (-93), 3) := by decide +kernel
theorem d_M_sameShares_101 : decode b_M_sameShares 101 = .ok (.iload_n 3, 1) := by decide +kernel
theorem d_M_sameShares_102 : decode b_M_sameShares 102 = .ok (.ireturn, 1) := by decide +kernel
theorem d_M_sameMortgages_0 : decode b_M_sameMortgages 0 = .ok (.aload_n 0, 1) := by decide +kernel
theorem d_M_sameMortgages_1 : decode b_M_sameMortgages 1 = .ok (.getfield 48, 3) := by decide +kernel
theorem d_M_sameMortgages_4 : decode b_M_sameMortgages 4 = .ok (.iload_n 1, 1) := by decide +kernel
theorem d_M_sameMortgages_5 : decode b_M_sameMortgages 5 = .ok (.iaload, 1) := by decide +kernel
theorem d_M_sameMortgages_6 : decode b_M_sameMortgages 6 = .ok (.aload_n 0, 1) := by decide +kernel
theorem d_M_sameMortgages_7 : decode b_M_sameMortgages 7 = .ok (.getfield 48, 3) := by decide +kernel
theorem d_M_sameMortgages_10 : decode b_M_sameMortgages 10 = .ok (.iload_n 2, 1) := by decide +kernel
theorem d_M_sameMortgages_11 : decode b_M_sameMortgages 11 = .ok (.iaload, 1) := by decide +kernel
theorem d_M_sameMortgages_12 : decode b_M_sameMortgages 12 = .ok (.if_icmp .ne 7, 3) := by decide +kernel
theorem d_M_sameMortgages_15 : decode b_M_sameMortgages 15 = .ok (.iconst 1, 1) := by decide +kernel
theorem d_M_sameMortgages_16 : decode b_M_sameMortgages 16 = .ok (.goto 4, 3) := by decide +kernel
theorem d_M_sameMortgages_19 : decode b_M_sameMortgages 19 = .ok (.iconst 0, 1) := by decide +kernel
theorem d_M_sameMortgages_20 : decode b_M_sameMortgages 20 = .ok (.istore_n 3, 1) := by decide +kernel
theorem d_M_sameMortgages_21 : decode b_M_sameMortgages 21 = .ok (.iconst 0, 1) := by decide +kernel
theorem d_M_sameMortgages_22 : decode b_M_sameMortgages 22 = .ok (.istore 4, 2) := by decide +kernel
theorem d_M_sameMortgages_24 : decode b_M_sameMortgages 24 = .ok (.iload 4, 2) := by decide +kernel
theorem d_M_sameMortgages_26 : decode b_M_sameMortgages 26 = .ok (.aload_n 0, 1) := by decide +kernel
theorem d_M_sameMortgages_27 : decode b_M_sameMortgages 27 = .ok (.getfield 48, 3) := by decide +kernel
theorem d_M_sameMortgages_30 : decode b_M_sameMortgages 30 = .ok (.iload_n 1, 1) := by decide +kernel
theorem d_M_sameMortgages_31 : decode b_M_sameMortgages 31 = .ok (.iaload, 1) := by decide +kernel
theorem d_M_sameMortgages_32 : decode b_M_sameMortgages 32 = .ok (.if_icmp .ge 69, 3) := by decide +kernel
theorem d_M_sameMortgages_35 : decode b_M_sameMortgages 35 = .ok (.iload_n 3, 1) := by decide +kernel
theorem d_M_sameMortgages_36 : decode b_M_sameMortgages 36 = .ok (.ifCond .eq 65, 3) := by decide +kernel
theorem d_M_sameMortgages_39 : decode b_M_sameMortgages 39 = .ok (.aload_n 0, 1) := by decide +kernel
theorem d_M_sameMortgages_40 : decode b_M_sameMortgages 40 = .ok (.getfield 51, 3) := by decide +kernel
theorem d_M_sameMortgages_43 : decode b_M_sameMortgages 43 = .ok (.iconst 4, 1) := by decide +kernel
theorem d_M_sameMortgages_44 : decode b_M_sameMortgages 44 = .ok (.iload_n 1, 1) := by decide +kernel
theorem d_M_sameMortgages_45 : decode b_M_sameMortgages 45 = .ok (.imul, 1) := by decide +kernel
theorem d_M_sameMortgages_46 : decode b_M_sameMortgages 46 = .ok (.iload 4, 2) := by decide +kernel
theorem d_M_sameMortgages_48 : decode b_M_sameMortgages 48 = .ok (.iadd, 1) := by decide +kernel
theorem d_M_sameMortgages_49 : decode b_M_sameMortgages 49 = .ok (.iaload, 1) := by decide +kernel
theorem d_M_sameMortgages_50 : decode b_M_sameMortgages 50 = .ok (.aload_n 0, 1) := by decide +kernel
theorem d_M_sameMortgages_51 : decode b_M_sameMortgages 51 = .ok (.getfield 51, 3) := by decide +kernel
theorem d_M_sameMortgages_54 : decode b_M_sameMortgages 54 = .ok (.iconst 4, 1) := by decide +kernel
theorem d_M_sameMortgages_55 : decode b_M_sameMortgages 55 = .ok (.iload_n 2, 1) := by decide +kernel
theorem d_M_sameMortgages_56 : decode b_M_sameMortgages 56 = .ok (.imul, 1) := by decide +kernel
theorem d_M_sameMortgages_57 : decode b_M_sameMortgages 57 = .ok (.iload 4, 2) := by decide +kernel
theorem d_M_sameMortgages_59 : decode b_M_sameMortgages 59 = .ok (.iadd, 1) := by decide +kernel
theorem d_M_sameMortgages_60 : decode b_M_sameMortgages 60 = .ok (.iaload, 1) := by decide +kernel
theorem d_M_sameMortgages_61 : decode b_M_sameMortgages 61 = .ok (.if_icmp .ne 32, 3) := by decide +kernel
theorem d_M_sameMortgages_64 : decode b_M_sameMortgages 64 = .ok (.aload_n 0, 1) := by decide +kernel
theorem d_M_sameMortgages_65 : decode b_M_sameMortgages 65 = .ok (.getfield 54, 3) := by decide +kernel
theorem d_M_sameMortgages_68 : decode b_M_sameMortgages 68 = .ok (.iconst 4, 1) := by decide +kernel
theorem d_M_sameMortgages_69 : decode b_M_sameMortgages 69 = .ok (.iload_n 1, 1) := by decide +kernel
theorem d_M_sameMortgages_70 : decode b_M_sameMortgages 70 = .ok (.imul, 1) := by decide +kernel
theorem d_M_sameMortgages_71 : decode b_M_sameMortgages 71 = .ok (.iload 4, 2) := by decide +kernel
theorem d_M_sameMortgages_73 : decode b_M_sameMortgages 73 = .ok (.iadd, 1) := by decide +kernel
theorem d_M_sameMortgages_74 : decode b_M_sameMortgages 74 = .ok (.iaload, 1) := by decide +kernel
theorem d_M_sameMortgages_75 : decode b_M_sameMortgages 75 = .ok (.aload_n 0, 1) := by decide +kernel
theorem d_M_sameMortgages_76 : decode b_M_sameMortgages 76 = .ok (.getfield 54, 3) := by decide +kernel
theorem d_M_sameMortgages_79 : decode b_M_sameMortgages 79 = .ok (.iconst 4, 1) := by decide +kernel
theorem d_M_sameMortgages_80 : decode b_M_sameMortgages 80 = .ok (.iload_n 2, 1) := by decide +kernel
theorem d_M_sameMortgages_81 : decode b_M_sameMortgages 81 = .ok (.imul, 1) := by decide +kernel
theorem d_M_sameMortgages_82 : decode b_M_sameMortgages 82 = .ok (.iload 4, 2) := by decide +kernel
theorem d_M_sameMortgages_84 : decode b_M_sameMortgages 84 = .ok (.iadd, 1) := by decide +kernel
theorem d_M_sameMortgages_85 : decode b_M_sameMortgages 85 = .ok (.iaload, 1) := by decide +kernel
theorem d_M_sameMortgages_86 : decode b_M_sameMortgages 86 = .ok (.if_icmp .ne 7, 3) := by decide +kernel
theorem d_M_sameMortgages_89 : decode b_M_sameMortgages 89 = .ok (.iconst 1, 1) := by decide +kernel
theorem d_M_sameMortgages_90 : decode b_M_sameMortgages 90 = .ok (.goto 4, 3) := by decide +kernel
theorem d_M_sameMortgages_93 : decode b_M_sameMortgages 93 = .ok (.iconst 0, 1) := by decide +kernel
theorem d_M_sameMortgages_94 : decode b_M_sameMortgages 94 = .ok (.istore_n 3, 1) := by decide +kernel
theorem d_M_sameMortgages_95 : decode b_M_sameMortgages 95 = .ok (.iinc 4 1, 3) := by decide +kernel
theorem d_M_sameMortgages_98 : decode b_M_sameMortgages 98 = .ok (.goto (-74), 3) := by decide +kernel
theorem d_M_sameMortgages_101 : decode b_M_sameMortgages 101 = .ok (.iload_n 3, 1) := by decide +kernel
theorem d_M_sameMortgages_102 : decode b_M_sameMortgages 102 = .ok (.ireturn, 1) := by decide +kernel
theorem d_M_setShare_0 : decode b_M_setShare 0 = .ok (.lload_n 2, 1) := by decide +kernel
theorem d_M_setShare_1 : decode b_M_setShare 1 = .ok (.lconst 0, 1) := by decide +kernel
theorem d_M_setShare_2 : decode b_M_setShare 2 = .ok (.lcmp, 1) := by decide +kernel
theorem d_M_setShare_3 : decode b_M_setShare 3 = .ok (.ifCond .ne 8, 3) := by decide +kernel
theorem d_M_setShare_6 : decode b_M_setShare 6 = .ok (.lload 4, 2) := by decide +kernel
theorem d_M_setShare_8 : decode b_M_setShare 8 = .ok (.goto 9, 3) := by decide +kernel
theorem d_M_setShare_11 : decode b_M_setShare 11 = .ok (.lload_n 2, 1) := by decide +kernel
theorem d_M_setShare_12 : decode b_M_setShare 12 = .ok (.lload 4, 2) := by decide +kernel
theorem d_M_setShare_14 : decode b_M_setShare 14 = .ok (.invokestatic 102, 3) := by decide +kernel
theorem d_M_setShare_17 : decode b_M_setShare 17 = .ok (.lstore 6, 2) := by decide +kernel
theorem d_M_setShare_19 : decode b_M_setShare 19 = .ok (.aload_n 0, 1) := by decide +kernel
theorem d_M_setShare_20 : decode b_M_setShare 20 = .ok (.getfield 42, 3) := by decide +kernel
theorem d_M_setShare_23 : decode b_M_setShare 23 = .ok (.iload_n 1, 1) := by decide +kernel
theorem d_M_setShare_24 : decode b_M_setShare 24 = .ok (.lload_n 2, 1) := by decide +kernel
theorem d_M_setShare_25 : decode b_M_setShare 25 = .ok (.lload 6, 2) := by decide +kernel
theorem d_M_setShare_27 : decode b_M_setShare 27 = .ok (.ldiv, 1) := by decide +kernel
theorem d_M_setShare_28 : decode b_M_setShare 28 = .ok (.lastore, 1) := by decide +kernel
theorem d_M_setShare_29 : decode b_M_setShare 29 = .ok (.aload_n 0, 1) := by decide +kernel
theorem d_M_setShare_30 : decode b_M_setShare 30 = .ok (.getfield 45, 3) := by decide +kernel
theorem d_M_setShare_33 : decode b_M_setShare 33 = .ok (.iload_n 1, 1) := by decide +kernel
theorem d_M_setShare_34 : decode b_M_setShare 34 = .ok (.lload 4, 2) := by decide +kernel
theorem d_M_setShare_36 : decode b_M_setShare 36 = .ok (.lload 6, 2) := by decide +kernel
theorem d_M_setShare_38 : decode b_M_setShare 38 = .ok (.ldiv, 1) := by decide +kernel
theorem d_M_setShare_39 : decode b_M_setShare 39 = .ok (.lastore, 1) := by decide +kernel
theorem d_M_setShare_40 : decode b_M_setShare 40 = .ok (.return_, 1) := by decide +kernel
theorem d_M_make_0 : decode b_M_make 0 = .ok (.aload_n 0, 1) := by decide +kernel
theorem d_M_make_1 : decode b_M_make 1 = .ok (.getfield 34, 3) := by decide +kernel
theorem d_M_make_4 : decode b_M_make 4 = .ok (.iload_n 1, 1) := by decide +kernel
theorem d_M_make_5 : decode b_M_make 5 = .ok (.iconst 1, 1) := by decide +kernel
theorem d_M_make_6 : decode b_M_make 6 = .ok (.bastore, 1) := by decide +kernel
theorem d_M_make_7 : decode b_M_make 7 = .ok (.aload_n 0, 1) := by decide +kernel
theorem d_M_make_8 : decode b_M_make 8 = .ok (.getfield 38, 3) := by decide +kernel
theorem d_M_make_11 : decode b_M_make 11 = .ok (.iload_n 1, 1) := by decide +kernel
theorem d_M_make_12 : decode b_M_make 12 = .ok (.lload_n 2, 1) := by decide +kernel
theorem d_M_make_13 : decode b_M_make 13 = .ok (.lastore, 1) := by decide +kernel
theorem d_M_make_14 : decode b_M_make 14 = .ok (.aload_n 0, 1) := by decide +kernel
theorem d_M_make_15 : decode b_M_make 15 = .ok (.getfield 57, 3) := by decide +kernel
theorem d_M_make_18 : decode b_M_make 18 = .ok (.iload_n 1, 1) := by decide +kernel
theorem d_M_make_19 : decode b_M_make 19 = .ok (.iconst 0, 1) := by decide +kernel
theorem d_M_make_20 : decode b_M_make 20 = .ok (.iastore, 1) := by decide +kernel
theorem d_M_make_21 : decode b_M_make 21 = .ok (.aload_n 0, 1) := by decide +kernel
theorem d_M_make_22 : decode b_M_make 22 = .ok (.getfield 48, 3) := by decide +kernel
theorem d_M_make_25 : decode b_M_make 25 = .ok (.iload_n 1, 1) := by decide +kernel
theorem d_M_make_26 : decode b_M_make 26 = .ok (.iload 4, 2) := by decide +kernel
theorem d_M_make_28 : decode b_M_make 28 = .ok (.ifCond .ge 7, 3) := by decide +kernel
theorem d_M_make_31 : decode b_M_make 31 = .ok (.iconst 0, 1) := by decide +kernel
theorem d_M_make_32 : decode b_M_make 32 = .ok (.goto 10, 3) := by decide +kernel
theorem d_M_make_35 : decode b_M_make 35 = .ok (.aload_n 0, 1) := by decide +kernel
theorem d_M_make_36 : decode b_M_make 36 = .ok (.getfield 48, 3) := by decide +kernel
theorem d_M_make_39 : decode b_M_make 39 = .ok (.iload 4, 2) := by decide +kernel
theorem d_M_make_41 : decode b_M_make 41 = .ok (.iaload, 1) := by decide +kernel
theorem d_M_make_42 : decode b_M_make 42 = .ok (.iastore, 1) := by decide +kernel
theorem d_M_make_43 : decode b_M_make 43 = .ok (.iconst 0, 1) := by decide +kernel
theorem d_M_make_44 : decode b_M_make 44 = .ok (.istore 5, 2) := by decide +kernel
theorem d_M_make_46 : decode b_M_make 46 = .ok (.iload 5, 2) := by decide +kernel
theorem d_M_make_48 : decode b_M_make 48 = .ok (.bipush 8, 2) := by decide +kernel
theorem d_M_make_50 : decode b_M_make 50 = .ok (.if_icmp .ge 77, 3) := by decide +kernel
theorem d_M_make_53 : decode b_M_make 53 = .ok (.aload_n 0, 1) := by decide +kernel
theorem d_M_make_54 : decode b_M_make 54 = .ok (.getfield 42, 3) := by decide +kernel
theorem d_M_make_57 : decode b_M_make 57 = .ok (.bipush 8, 2) := by decide +kernel
theorem d_M_make_59 : decode b_M_make 59 = .ok (.iload_n 1, 1) := by decide +kernel
theorem d_M_make_60 : decode b_M_make 60 = .ok (.imul, 1) := by decide +kernel
theorem d_M_make_61 : decode b_M_make 61 = .ok (.iload 5, 2) := by decide +kernel
theorem d_M_make_63 : decode b_M_make 63 = .ok (.iadd, 1) := by decide +kernel
theorem d_M_make_64 : decode b_M_make 64 = .ok (.iload 4, 2) := by decide +kernel
theorem d_M_make_66 : decode b_M_make 66 = .ok (.ifCond .ge 7, 3) := by decide +kernel
theorem d_M_make_69 : decode b_M_make 69 = .ok (.lconst 0, 1) := by decide +kernel
theorem d_M_make_70 : decode b_M_make 70 = .ok (.goto 16, 3) := by decide +kernel
theorem d_M_make_73 : decode b_M_make 73 = .ok (.aload_n 0, 1) := by decide +kernel
theorem d_M_make_74 : decode b_M_make 74 = .ok (.getfield 42, 3) := by decide +kernel
theorem d_M_make_77 : decode b_M_make 77 = .ok (.bipush 8, 2) := by decide +kernel
theorem d_M_make_79 : decode b_M_make 79 = .ok (.iload 4, 2) := by decide +kernel
theorem d_M_make_81 : decode b_M_make 81 = .ok (.imul, 1) := by decide +kernel
theorem d_M_make_82 : decode b_M_make 82 = .ok (.iload 5, 2) := by decide +kernel
theorem d_M_make_84 : decode b_M_make 84 = .ok (.iadd, 1) := by decide +kernel
theorem d_M_make_85 : decode b_M_make 85 = .ok (.laload, 1) := by decide +kernel
theorem d_M_make_86 : decode b_M_make 86 = .ok (.lastore, 1) := by decide +kernel
theorem d_M_make_87 : decode b_M_make 87 = .ok (.aload_n 0, 1) := by decide +kernel
theorem d_M_make_88 : decode b_M_make 88 = .ok (.getfield 45, 3) := by decide +kernel
theorem d_M_make_91 : decode b_M_make 91 = .ok (.bipush 8, 2) := by decide +kernel
theorem d_M_make_93 : decode b_M_make 93 = .ok (.iload_n 1, 1) := by decide +kernel
theorem d_M_make_94 : decode b_M_make 94 = .ok (.imul, 1) := by decide +kernel
theorem d_M_make_95 : decode b_M_make 95 = .ok (.iload 5, 2) := by decide +kernel
theorem d_M_make_97 : decode b_M_make 97 = .ok (.iadd, 1) := by decide +kernel
theorem d_M_make_98 : decode b_M_make 98 = .ok (.iload 4, 2) := by decide +kernel
theorem d_M_make_100 : decode b_M_make 100 = .ok (.ifCond .ge 7, 3) := by decide +kernel
theorem d_M_make_103 : decode b_M_make 103 = .ok (.lconst 1, 1) := by decide +kernel
theorem d_M_make_104 : decode b_M_make 104 = .ok (.goto 16, 3) := by decide +kernel
theorem d_M_make_107 : decode b_M_make 107 = .ok (.aload_n 0, 1) := by decide +kernel
theorem d_M_make_108 : decode b_M_make 108 = .ok (.getfield 45, 3) := by decide +kernel
theorem d_M_make_111 : decode b_M_make 111 = .ok (.bipush 8, 2) := by decide +kernel
theorem d_M_make_113 : decode b_M_make 113 = .ok (.iload 4, 2) := by decide +kernel
theorem d_M_make_115 : decode b_M_make 115 = .ok (.imul, 1) := by decide +kernel
theorem d_M_make_116 : decode b_M_make 116 = .ok (.iload 5, 2) := by decide +kernel
theorem d_M_make_118 : decode b_M_make 118 = .ok (.iadd, 1) := by decide +kernel
theorem d_M_make_119 : decode b_M_make 119 = .ok (.laload, 1) := by decide +kernel
theorem d_M_make_120 : decode b_M_make 120 = .ok (.lastore, 1) := by decide +kernel
theorem d_M_make_121 : decode b_M_make 121 = .ok (.iinc 5 1, 3) := by decide +kernel
theorem d_M_make_124 : decode b_M_make 124 = .ok (.goto (-78), 3) := by decide +kernel
theorem d_M_make_127 : decode b_M_make 127 = .ok (.iconst 0, 1) := by decide +kernel
theorem d_M_make_128 : decode b_M_make 128 = .ok (.istore 5, 2) := by decide +kernel
theorem d_M_make_130 : decode b_M_make 130 = .ok (.iload 5, 2) := by decide +kernel
theorem d_M_make_132 : decode b_M_make 132 = .ok (.aload_n 0, 1) := by decide +kernel
theorem d_M_make_133 : decode b_M_make 133 = .ok (.getfield 48, 3) := by decide +kernel
theorem d_M_make_136 : decode b_M_make 136 = .ok (.iload_n 1, 1) := by decide +kernel
theorem d_M_make_137 : decode b_M_make 137 = .ok (.iaload, 1) := by decide +kernel
theorem d_M_make_138 : decode b_M_make 138 = .ok (.if_icmp .ge 55, 3) := by decide +kernel
theorem d_M_make_141 : decode b_M_make 141 = .ok (.aload_n 0, 1) := by decide +kernel
theorem d_M_make_142 : decode b_M_make 142 = .ok (.getfield 51, 3) := by decide +kernel
theorem d_M_make_145 : decode b_M_make 145 = .ok (.iconst 4, 1) := by decide +kernel
theorem d_M_make_146 : decode b_M_make 146 = .ok (.iload_n 1, 1) := by decide +kernel
theorem d_M_make_147 : decode b_M_make 147 = .ok (.imul, 1) := by decide +kernel
theorem d_M_make_148 : decode b_M_make 148 = .ok (.iload 5, 2) := by decide +kernel
theorem d_M_make_150 : decode b_M_make 150 = .ok (.iadd, 1) := by decide +kernel
theorem d_M_make_151 : decode b_M_make 151 = .ok (.aload_n 0, 1) := by decide +kernel
theorem d_M_make_152 : decode b_M_make 152 = .ok (.getfield 51, 3) := by decide +kernel
theorem d_M_make_155 : decode b_M_make 155 = .ok (.iconst 4, 1) := by decide +kernel
theorem d_M_make_156 : decode b_M_make 156 = .ok (.iload 4, 2) := by decide +kernel
theorem d_M_make_158 : decode b_M_make 158 = .ok (.imul, 1) := by decide +kernel
theorem d_M_make_159 : decode b_M_make 159 = .ok (.iload 5, 2) := by decide +kernel
theorem d_M_make_161 : decode b_M_make 161 = .ok (.iadd, 1) := by decide +kernel
theorem d_M_make_162 : decode b_M_make 162 = .ok (.iaload, 1) := by decide +kernel
theorem d_M_make_163 : decode b_M_make 163 = .ok (.iastore, 1) := by decide +kernel
theorem d_M_make_164 : decode b_M_make 164 = .ok (.aload_n 0, 1) := by decide +kernel
theorem d_M_make_165 : decode b_M_make 165 = .ok (.getfield 54, 3) := by decide +kernel
theorem d_M_make_168 : decode b_M_make 168 = .ok (.iconst 4, 1) := by decide +kernel
theorem d_M_make_169 : decode b_M_make 169 = .ok (.iload_n 1, 1) := by decide +kernel
theorem d_M_make_170 : decode b_M_make 170 = .ok (.imul, 1) := by decide +kernel
theorem d_M_make_171 : decode b_M_make 171 = .ok (.iload 5, 2) := by decide +kernel
theorem d_M_make_173 : decode b_M_make 173 = .ok (.iadd, 1) := by decide +kernel
theorem d_M_make_174 : decode b_M_make 174 = .ok (.aload_n 0, 1) := by decide +kernel
theorem d_M_make_175 : decode b_M_make 175 = .ok (.getfield 54, 3) := by decide +kernel
theorem d_M_make_178 : decode b_M_make 178 = .ok (.iconst 4, 1) := by decide +kernel
theorem d_M_make_179 : decode b_M_make 179 = .ok (.iload 4, 2) := by decide +kernel
theorem d_M_make_181 : decode b_M_make 181 = .ok (.imul, 1) := by decide +kernel
theorem d_M_make_182 : decode b_M_make 182 = .ok (.iload 5, 2) := by decide +kernel
theorem d_M_make_184 : decode b_M_make 184 = .ok (.iadd, 1) := by decide +kernel
theorem d_M_make_185 : decode b_M_make 185 = .ok (.iaload, 1) := by decide +kernel
theorem d_M_make_186 : decode b_M_make 186 = .ok (.iastore, 1) := by decide +kernel
theorem d_M_make_187 : decode b_M_make 187 = .ok (.iinc 5 1, 3) := by decide +kernel
theorem d_M_make_190 : decode b_M_make 190 = .ok (.goto (-60), 3) := by decide +kernel
theorem d_M_make_193 : decode b_M_make 193 = .ok (.aload_n 0, 1) := by decide +kernel
theorem d_M_make_194 : decode b_M_make 194 = .ok (.getfield 60, 3) := by decide +kernel
theorem d_M_make_197 : decode b_M_make 197 = .ok (.iload_n 1, 1) := by decide +kernel
theorem d_M_make_198 : decode b_M_make 198 = .ok (.iload 4, 2) := by decide +kernel
theorem d_M_make_200 : decode b_M_make 200 = .ok (.iastore, 1) := by decide +kernel
theorem d_M_make_201 : decode b_M_make 201 = .ok (.return_, 1) := by decide +kernel
theorem d_M_exchange_0 : decode b_M_exchange 0 = .ok (.aload_n 0, 1) := by decide +kernel
theorem d_M_exchange_1 : decode b_M_exchange 1 = .ok (.getfield 51, 3) := by decide +kernel
theorem d_M_exchange_4 : decode b_M_exchange 4 = .ok (.iload_n 1, 1) := by decide +kernel
theorem d_M_exchange_5 : decode b_M_exchange 5 = .ok (.iaload, 1) := by decide +kernel
theorem d_M_exchange_6 : decode b_M_exchange 6 = .ok (.istore_n 3, 1) := by decide +kernel
theorem d_M_exchange_7 : decode b_M_exchange 7 = .ok (.aload_n 0, 1) := by decide +kernel
theorem d_M_exchange_8 : decode b_M_exchange 8 = .ok (.getfield 54, 3) := by decide +kernel
theorem d_M_exchange_11 : decode b_M_exchange 11 = .ok (.iload_n 1, 1) := by decide +kernel
theorem d_M_exchange_12 : decode b_M_exchange 12 = .ok (.iaload, 1) := by decide +kernel
theorem d_M_exchange_13 : decode b_M_exchange 13 = .ok (.istore 4, 2) := by decide +kernel
theorem d_M_exchange_15 : decode b_M_exchange 15 = .ok (.aload_n 0, 1) := by decide +kernel
theorem d_M_exchange_16 : decode b_M_exchange 16 = .ok (.getfield 51, 3) := by decide +kernel
theorem d_M_exchange_19 : decode b_M_exchange 19 = .ok (.iload_n 1, 1) := by decide +kernel
theorem d_M_exchange_20 : decode b_M_exchange 20 = .ok (.aload_n 0, 1) := by decide +kernel
theorem d_M_exchange_21 : decode b_M_exchange 21 = .ok (.getfield 51, 3) := by decide +kernel
theorem d_M_exchange_24 : decode b_M_exchange 24 = .ok (.iload_n 2, 1) := by decide +kernel
theorem d_M_exchange_25 : decode b_M_exchange 25 = .ok (.iaload, 1) := by decide +kernel
theorem d_M_exchange_26 : decode b_M_exchange 26 = .ok (.iastore, 1) := by decide +kernel
theorem d_M_exchange_27 : decode b_M_exchange 27 = .ok (.aload_n 0, 1) := by decide +kernel
theorem d_M_exchange_28 : decode b_M_exchange 28 = .ok (.getfield 54, 3) := by decide +kernel
theorem d_M_exchange_31 : decode b_M_exchange 31 = .ok (.iload_n 1, 1) := by decide +kernel
theorem d_M_exchange_32 : decode b_M_exchange 32 = .ok (.aload_n 0, 1) := by decide +kernel
theorem d_M_exchange_33 : decode b_M_exchange 33 = .ok (.getfield 54, 3) := by decide +kernel
theorem d_M_exchange_36 : decode b_M_exchange 36 = .ok (.iload_n 2, 1) := by decide +kernel
theorem d_M_exchange_37 : decode b_M_exchange 37 = .ok (.iaload, 1) := by decide +kernel
theorem d_M_exchange_38 : decode b_M_exchange 38 = .ok (.iastore, 1) := by decide +kernel
theorem d_M_exchange_39 : decode b_M_exchange 39 = .ok (.aload_n 0, 1) := by decide +kernel
theorem d_M_exchange_40 : decode b_M_exchange 40 = .ok (.getfield 51, 3) := by decide +kernel
theorem d_M_exchange_43 : decode b_M_exchange 43 = .ok (.iload_n 2, 1) := by decide +kernel
theorem d_M_exchange_44 : decode b_M_exchange 44 = .ok (.iload_n 3, 1) := by decide +kernel
theorem d_M_exchange_45 : decode b_M_exchange 45 = .ok (.iastore, 1) := by decide +kernel
theorem d_M_exchange_46 : decode b_M_exchange 46 = .ok (.aload_n 0, 1) := by decide +kernel
theorem d_M_exchange_47 : decode b_M_exchange 47 = .ok (.getfield 54, 3) := by decide +kernel
theorem d_M_exchange_50 : decode b_M_exchange 50 = .ok (.iload_n 2, 1) := by decide +kernel
theorem d_M_exchange_51 : decode b_M_exchange 51 = .ok (.iload 4, 2) := by decide +kernel
theorem d_M_exchange_53 : decode b_M_exchange 53 = .ok (.iastore, 1) := by decide +kernel
theorem d_M_exchange_54 : decode b_M_exchange 54 = .ok (.return_, 1) := by decide +kernel
theorem d_M_carry_0 : decode b_M_carry 0 = .ok (.iload_n 2, 1) := by decide +kernel
theorem d_M_carry_1 : decode b_M_carry 1 = .ok (.istore 4, 2) := by decide +kernel
theorem d_M_carry_3 : decode b_M_carry 3 = .ok (.iload 4, 2) := by decide +kernel
theorem d_M_carry_5 : decode b_M_carry 5 = .ok (.iload_n 3, 1) := by decide +kernel
theorem d_M_carry_6 : decode b_M_carry 6 = .ok (.if_icmp .ge 27, 3) := by decide +kernel
theorem d_M_carry_9 : decode b_M_carry 9 = .ok (.aload_n 0, 1) := by decide +kernel
theorem d_M_carry_10 : decode b_M_carry 10 = .ok (.iconst 4, 1) := by decide +kernel
theorem d_M_carry_11 : decode b_M_carry 11 = .ok (.iload_n 1, 1) := by decide +kernel
theorem d_M_carry_12 : decode b_M_carry 12 = .ok (.imul, 1) := by decide +kernel
theorem d_M_carry_13 : decode b_M_carry 13 = .ok (.iload 4, 2) := by decide +kernel
theorem d_M_carry_15 : decode b_M_carry 15 = .ok (.iadd, 1) := by decide +kernel
theorem d_M_carry_16 : decode b_M_carry 16 = .ok (.iconst 4, 1) := by decide +kernel
theorem d_M_carry_17 : decode b_M_carry 17 = .ok (.iload_n 1, 1) := by decide +kernel
theorem d_M_carry_18 : decode b_M_carry 18 = .ok (.imul, 1) := by decide +kernel
theorem d_M_carry_19 : decode b_M_carry 19 = .ok (.iload 4, 2) := by decide +kernel
theorem d_M_carry_21 : decode b_M_carry 21 = .ok (.iadd, 1) := by decide +kernel
theorem d_M_carry_22 : decode b_M_carry 22 = .ok (.iconst 1, 1) := by decide +kernel
theorem d_M_carry_23 : decode b_M_carry 23 = .ok (.iadd, 1) := by decide +kernel
theorem d_M_carry_24 : decode b_M_carry 24 = .ok (.invokevirtual 111, 3) := by decide +kernel
theorem d_M_carry_27 : decode b_M_carry 27 = .ok (.iinc 4 1, 3) := by decide +kernel
theorem d_M_carry_30 : decode b_M_carry 30 = .ok (.goto (-27), 3) := by decide +kernel
theorem d_M_carry_33 : decode b_M_carry 33 = .ok (.iload_n 2, 1) := by decide +kernel
theorem d_M_carry_34 : decode b_M_carry 34 = .ok (.istore 4, 2) := by decide +kernel
theorem d_M_carry_36 : decode b_M_carry 36 = .ok (.iload 4, 2) := by decide +kernel
theorem d_M_carry_38 : decode b_M_carry 38 = .ok (.iload_n 3, 1) := by decide +kernel
theorem d_M_carry_39 : decode b_M_carry 39 = .ok (.if_icmp .le 27, 3) := by decide +kernel
theorem d_M_carry_42 : decode b_M_carry 42 = .ok (.aload_n 0, 1) := by decide +kernel
theorem d_M_carry_43 : decode b_M_carry 43 = .ok (.iconst 4, 1) := by decide +kernel
theorem d_M_carry_44 : decode b_M_carry 44 = .ok (.iload_n 1, 1) := by decide +kernel
theorem d_M_carry_45 : decode b_M_carry 45 = .ok (.imul, 1) := by decide +kernel
theorem d_M_carry_46 : decode b_M_carry 46 = .ok (.iload 4, 2) := by decide +kernel
theorem d_M_carry_48 : decode b_M_carry 48 = .ok (.iadd, 1) := by decide +kernel
theorem d_M_carry_49 : decode b_M_carry 49 = .ok (.iconst 4, 1) := by decide +kernel
theorem d_M_carry_50 : decode b_M_carry 50 = .ok (.iload_n 1, 1) := by decide +kernel
theorem d_M_carry_51 : decode b_M_carry 51 = .ok (.imul, 1) := by decide +kernel
theorem d_M_carry_52 : decode b_M_carry 52 = .ok (.iload 4, 2) := by decide +kernel
theorem d_M_carry_54 : decode b_M_carry 54 = .ok (.iadd, 1) := by decide +kernel
theorem d_M_carry_55 : decode b_M_carry 55 = .ok (.iconst 1, 1) := by decide +kernel
theorem d_M_carry_56 : decode b_M_carry 56 = .ok (.isub, 1) := by decide +kernel
theorem d_M_carry_57 : decode b_M_carry 57 = .ok (.invokevirtual 111, 3) := by decide +kernel
theorem d_M_carry_60 : decode b_M_carry 60 = .ok (.iinc 4 (-1), 3) := by decide +kernel
theorem d_M_carry_63 : decode b_M_carry 63 = .ok (.goto (-27), 3) := by decide +kernel
theorem d_M_carry_66 : decode b_M_carry 66 = .ok (.return_, 1) := by decide +kernel
theorem d_M_sells_0 : decode b_M_sells 0 = .ok (.aload_n 0, 1) := by decide +kernel
theorem d_M_sells_1 : decode b_M_sells 1 = .ok (.getfield 19, 3) := by decide +kernel
theorem d_M_sells_4 : decode b_M_sells 4 = .ok (.iload_n 1, 1) := by decide +kernel
theorem d_M_sells_5 : decode b_M_sells 5 = .ok (.iaload, 1) := by decide +kernel
theorem d_M_sells_6 : decode b_M_sells 6 = .ok (.istore_n 2, 1) := by decide +kernel
theorem d_M_sells_7 : decode b_M_sells 7 = .ok (.bipush 8, 2) := by decide +kernel
theorem d_M_sells_9 : decode b_M_sells 9 = .ok (.iload_n 2, 1) := by decide +kernel
theorem d_M_sells_10 : decode b_M_sells 10 = .ok (.imul, 1) := by decide +kernel
theorem d_M_sells_11 : decode b_M_sells 11 = .ok (.aload_n 0, 1) := by decide +kernel
theorem d_M_sells_12 : decode b_M_sells 12 = .ok (.getfield 22, 3) := by decide +kernel
theorem d_M_sells_15 : decode b_M_sells 15 = .ok (.iload_n 1, 1) := by decide +kernel
theorem d_M_sells_16 : decode b_M_sells 16 = .ok (.iaload, 1) := by decide +kernel
theorem d_M_sells_17 : decode b_M_sells 17 = .ok (.bipush 8, 2) := by decide +kernel
theorem d_M_sells_19 : decode b_M_sells 19 = .ok (.idiv, 1) := by decide +kernel
theorem d_M_sells_20 : decode b_M_sells 20 = .ok (.iadd, 1) := by decide +kernel
theorem d_M_sells_21 : decode b_M_sells 21 = .ok (.istore_n 3, 1) := by decide +kernel
theorem d_M_sells_22 : decode b_M_sells 22 = .ok (.bipush 8, 2) := by decide +kernel
theorem d_M_sells_24 : decode b_M_sells 24 = .ok (.iload_n 2, 1) := by decide +kernel
theorem d_M_sells_25 : decode b_M_sells 25 = .ok (.imul, 1) := by decide +kernel
theorem d_M_sells_26 : decode b_M_sells 26 = .ok (.aload_n 0, 1) := by decide +kernel
theorem d_M_sells_27 : decode b_M_sells 27 = .ok (.getfield 22, 3) := by decide +kernel
theorem d_M_sells_30 : decode b_M_sells 30 = .ok (.iload_n 1, 1) := by decide +kernel
theorem d_M_sells_31 : decode b_M_sells 31 = .ok (.iaload, 1) := by decide +kernel
theorem d_M_sells_32 : decode b_M_sells 32 = .ok (.bipush 8, 2) := by decide +kernel
theorem d_M_sells_34 : decode b_M_sells 34 = .ok (.irem, 1) := by decide +kernel
theorem d_M_sells_35 : decode b_M_sells 35 = .ok (.iadd, 1) := by decide +kernel
theorem d_M_sells_36 : decode b_M_sells 36 = .ok (.istore 4, 2) := by decide +kernel
theorem d_M_sells_38 : decode b_M_sells 38 = .ok (.aload_n 0, 1) := by decide +kernel
theorem d_M_sells_39 : decode b_M_sells 39 = .ok (.getfield 25, 3) := by decide +kernel
theorem d_M_sells_42 : decode b_M_sells 42 = .ok (.iload_n 1, 1) := by decide +kernel
theorem d_M_sells_43 : decode b_M_sells 43 = .ok (.iaload, 1) := by decide +kernel
theorem d_M_sells_44 : decode b_M_sells 44 = .ok (.i2l, 1) := by decide +kernel
theorem d_M_sells_45 : decode b_M_sells 45 = .ok (.lstore 5, 2) := by decide +kernel
theorem d_M_sells_47 : decode b_M_sells 47 = .ok (.aload_n 0, 1) := by decide +kernel
theorem d_M_sells_48 : decode b_M_sells 48 = .ok (.getfield 28, 3) := by decide +kernel
theorem d_M_sells_51 : decode b_M_sells 51 = .ok (.iload_n 1, 1) := by decide +kernel
theorem d_M_sells_52 : decode b_M_sells 52 = .ok (.iaload, 1) := by decide +kernel
theorem d_M_sells_53 : decode b_M_sells 53 = .ok (.i2l, 1) := by decide +kernel
theorem d_M_sells_54 : decode b_M_sells 54 = .ok (.lstore 7, 2) := by decide +kernel
theorem d_M_sells_56 : decode b_M_sells 56 = .ok (.aload_n 0, 1) := by decide +kernel
theorem d_M_sells_57 : decode b_M_sells 57 = .ok (.iload_n 3, 1) := by decide +kernel
theorem d_M_sells_58 : decode b_M_sells 58 = .ok (.aload_n 0, 1) := by decide +kernel
theorem d_M_sells_59 : decode b_M_sells 59 = .ok (.getfield 42, 3) := by decide +kernel
theorem d_M_sells_62 : decode b_M_sells 62 = .ok (.iload_n 3, 1) := by decide +kernel
theorem d_M_sells_63 : decode b_M_sells 63 = .ok (.laload, 1) := by decide +kernel
theorem d_M_sells_64 : decode b_M_sells 64 = .ok (.lload 7, 2) := by decide +kernel
theorem d_M_sells_66 : decode b_M_sells 66 = .ok (.lmul, 1) := by decide +kernel
theorem d_M_sells_67 : decode b_M_sells 67 = .ok (.lload 5, 2) := by decide +kernel
theorem d_M_sells_69 : decode b_M_sells 69 = .ok (.aload_n 0, 1) := by decide +kernel
theorem d_M_sells_70 : decode b_M_sells 70 = .ok (.getfield 45, 3) := by decide +kernel
theorem d_M_sells_73 : decode b_M_sells 73 = .ok (.iload_n 3, 1) := by decide +kernel
theorem d_M_sells_74 : decode b_M_sells 74 = .ok (.laload, 1) := by decide +kernel
theorem d_M_sells_75 : decode b_M_sells 75 = .ok (.lmul, 1) := by decide +kernel
theorem d_M_sells_76 : decode b_M_sells 76 = .ok (.lsub, 1) := by decide +kernel
theorem d_M_sells_77 : decode b_M_sells 77 = .ok (.aload_n 0, 1) := by decide +kernel
theorem d_M_sells_78 : decode b_M_sells 78 = .ok (.getfield 45, 3) := by decide +kernel
theorem d_M_sells_81 : decode b_M_sells 81 = .ok (.iload_n 3, 1) := by decide +kernel
theorem d_M_sells_82 : decode b_M_sells 82 = .ok (.laload, 1) := by decide +kernel
theorem d_M_sells_83 : decode b_M_sells 83 = .ok (.lload 7, 2) := by decide +kernel
theorem d_M_sells_85 : decode b_M_sells 85 = .ok (.lmul, 1) := by decide +kernel
theorem d_M_sells_86 : decode b_M_sells 86 = .ok (.invokevirtual 114, 3) := by decide +kernel
theorem d_M_sells_89 : decode b_M_sells 89 = .ok (.aload_n 0, 1) := by decide +kernel
theorem d_M_sells_90 : decode b_M_sells 90 = .ok (.iload 4, 2) := by decide +kernel
theorem d_M_sells_92 : decode b_M_sells 92 = .ok (.aload_n 0, 1) := by decide +kernel
theorem d_M_sells_93 : decode b_M_sells 93 = .ok (.getfield 42, 3) := by decide +kernel
theorem d_M_sells_96 : decode b_M_sells 96 = .ok (.iload 4, 2) := by decide +kernel
theorem d_M_sells_98 : decode b_M_sells 98 = .ok (.laload, 1) := by decide +kernel
theorem d_M_sells_99 : decode b_M_sells 99 = .ok (.lload 7, 2) := by decide +kernel
theorem d_M_sells_101 : decode b_M_sells 101 = .ok (.lmul, 1) := by decide +kernel
theorem d_M_sells_102 : decode b_M_sells 102 = .ok (.lload 5, 2) := by decide +kernel
theorem d_M_sells_104 : decode b_M_sells 104 = .ok (.aload_n 0, 1) := by decide +kernel
theorem d_M_sells_105 : decode b_M_sells 105 = .ok (.getfield 45, 3) := by decide +kernel
theorem d_M_sells_108 : decode b_M_sells 108 = .ok (.iload 4, 2) := by decide +kernel
theorem d_M_sells_110 : decode b_M_sells 110 = .ok (.laload, 1) := by decide +kernel
theorem d_M_sells_111 : decode b_M_sells 111 = .ok (.lmul, 1) := by decide +kernel
theorem d_M_sells_112 : decode b_M_sells 112 = .ok (.ladd, 1) := by decide +kernel
theorem d_M_sells_113 : decode b_M_sells 113 = .ok (.aload_n 0, 1) := by decide +kernel
theorem d_M_sells_114 : decode b_M_sells 114 = .ok (.getfield 45, 3) := by decide +kernel
theorem d_M_sells_117 : decode b_M_sells 117 = .ok (.iload 4, 2) := by decide +kernel
theorem d_M_sells_119 : decode b_M_sells 119 = .ok (.laload, 1) := by decide +kernel
theorem d_M_sells_120 : decode b_M_sells 120 = .ok (.lload 7, 2) := by decide +kernel
theorem d_M_sells_122 : decode b_M_sells 122 = .ok (.lmul, 1) := by decide +kernel
theorem d_M_sells_123 : decode b_M_sells 123 = .ok (.invokevirtual 114, 3) := by decide +kernel
theorem d_M_sells_126 : decode b_M_sells 126 = .ok (.return_, 1) := by decide +kernel
theorem d_M_does_0 : decode b_M_does 0 = .ok (.aload_n 0, 1) := by decide +kernel
theorem d_M_does_1 : decode b_M_does 1 = .ok (.getfield 19, 3) := by decide +kernel
theorem d_M_does_4 : decode b_M_does 4 = .ok (.iload_n 1, 1) := by decide +kernel
theorem d_M_does_5 : decode b_M_does 5 = .ok (.iaload, 1) := by decide +kernel
theorem d_M_does_6 : decode b_M_does 6 = .ok (.istore_n 2, 1) := by decide +kernel
theorem d_M_does_7 : decode b_M_does 7 = .ok (.aload_n 0, 1) := by decide +kernel
theorem d_M_does_8 : decode b_M_does 8 = .ok (.getfield 7, 3) := by decide +kernel
theorem d_M_does_11 : decode b_M_does 11 = .ok (.iload_n 1, 1) := by decide +kernel
theorem d_M_does_12 : decode b_M_does 12 = .ok (.iaload, 1) := by decide +kernel
theorem d_M_does_13 : decode b_M_does 13 = .ok (.tableswitch 271 0 7 #[47, 77, 85, 140, 164, 198, 198, 222], 47) := by decide +kernel
theorem d_M_does_60 : decode b_M_does 60 = .ok (.aload_n 0, 1) := by decide +kernel
theorem d_M_does_61 : decode b_M_does 61 = .ok (.iconst 2, 1) := by decide +kernel
theorem d_M_does_62 : decode b_M_does 62 = .ok (.iload_n 1, 1) := by decide +kernel
theorem d_M_does_63 : decode b_M_does 63 = .ok (.imul, 1) := by decide +kernel
theorem d_M_does_64 : decode b_M_does 64 = .ok (.iload_n 2, 1) := by decide +kernel
theorem d_M_does_65 : decode b_M_does 65 = .ok (.i2l, 1) := by decide +kernel
theorem d_M_does_66 : decode b_M_does 66 = .ok (.iconst (-1), 1) := by decide +kernel
theorem d_M_does_67 : decode b_M_does 67 = .ok (.invokevirtual 118, 3) := by decide +kernel
theorem d_M_does_70 : decode b_M_does 70 = .ok (.aload_n 0, 1) := by decide +kernel
theorem d_M_does_71 : decode b_M_does 71 = .ok (.getfield 42, 3) := by decide +kernel
theorem d_M_does_74 : decode b_M_does 74 = .ok (.bipush 16, 2) := by decide +kernel
theorem d_M_does_76 : decode b_M_does 76 = .ok (.iload_n 1, 1) := by decide +kernel
theorem d_M_does_77 : decode b_M_does 77 = .ok (.imul, 1) := by decide +kernel
theorem d_M_does_78 : decode b_M_does 78 = .ok (.aload_n 0, 1) := by decide +kernel
theorem d_M_does_79 : decode b_M_does 79 = .ok (.getfield 22, 3) := by decide +kernel
theorem d_M_does_82 : decode b_M_does 82 = .ok (.iload_n 1, 1) := by decide +kernel
theorem d_M_does_83 : decode b_M_does 83 = .ok (.iaload, 1) := by decide +kernel
theorem d_M_does_84 : decode b_M_does 84 = .ok (.iadd, 1) := by decide +kernel
theorem d_M_does_85 : decode b_M_does 85 = .ok (.lconst 1, 1) := by decide +kernel
theorem d_M_does_86 : decode b_M_does 86 = .ok (.lastore, 1) := by decide +kernel
theorem d_M_does_87 : decode b_M_does 87 = .ok (.goto 256, 3) := by decide +kernel
theorem d_M_does_90 : decode b_M_does 90 = .ok (.aload_n 0, 1) := by decide +kernel
theorem d_M_does_91 : decode b_M_does 91 = .ok (.iload_n 1, 1) := by decide +kernel
theorem d_M_does_92 : decode b_M_does 92 = .ok (.invokevirtual 122, 3) := by decide +kernel
theorem d_M_does_95 : decode b_M_does 95 = .ok (.goto 248, 3) := by decide +kernel
theorem d_M_does_98 : decode b_M_does 98 = .ok (.aload_n 0, 1) := by decide +kernel
theorem d_M_does_99 : decode b_M_does 99 = .ok (.getfield 51, 3) := by decide +kernel
theorem d_M_does_102 : decode b_M_does 102 = .ok (.iconst 4, 1) := by decide +kernel
theorem d_M_does_103 : decode b_M_does 103 = .ok (.iload_n 2, 1) := by decide +kernel
theorem d_M_does_104 : decode b_M_does 104 = .ok (.imul, 1) := by decide +kernel
theorem d_M_does_105 : decode b_M_does 105 = .ok (.aload_n 0, 1) := by decide +kernel
theorem d_M_does_106 : decode b_M_does 106 = .ok (.getfield 48, 3) := by decide +kernel
theorem d_M_does_109 : decode b_M_does 109 = .ok (.iload_n 2, 1) := by decide +kernel
theorem d_M_does_110 : decode b_M_does 110 = .ok (.iaload, 1) := by decide +kernel
theorem d_M_does_111 : decode b_M_does 111 = .ok (.iadd, 1) := by decide +kernel
theorem d_M_does_112 : decode b_M_does 112 = .ok (.aload_n 0, 1) := by decide +kernel
theorem d_M_does_113 : decode b_M_does 113 = .ok (.getfield 22, 3) := by decide +kernel
theorem d_M_does_116 : decode b_M_does 116 = .ok (.iload_n 1, 1) := by decide +kernel
theorem d_M_does_117 : decode b_M_does 117 = .ok (.iaload, 1) := by decide +kernel
theorem d_M_does_118 : decode b_M_does 118 = .ok (.iastore, 1) := by decide +kernel
theorem d_M_does_119 : decode b_M_does 119 = .ok (.aload_n 0, 1) := by decide +kernel
theorem d_M_does_120 : decode b_M_does 120 = .ok (.getfield 54, 3) := by decide +kernel
theorem d_M_does_123 : decode b_M_does 123 = .ok (.iconst 4, 1) := by decide +kernel
theorem d_M_does_124 : decode b_M_does 124 = .ok (.iload_n 2, 1) := by decide +kernel
theorem d_M_does_125 : decode b_M_does 125 = .ok (.imul, 1) := by decide +kernel
theorem d_M_does_126 : decode b_M_does 126 = .ok (.aload_n 0, 1) := by decide +kernel
theorem d_M_does_127 : decode b_M_does 127 = .ok (.getfield 48, 3) := by decide +kernel
theorem d_M_does_130 : decode b_M_does 130 = .ok (.iload_n 2, 1) := by decide +kernel
theorem d_M_does_131 : decode b_M_does 131 = .ok (.iaload, 1) := by decide +kernel
theorem d_M_does_132 : decode b_M_does 132 = .ok (.iadd, 1) := by decide +kernel
theorem d_M_does_133 : decode b_M_does 133 = .ok (.aload_n 0, 1) := by decide +kernel
theorem d_M_does_134 : decode b_M_does 134 = .ok (.getfield 25, 3) := by decide +kernel
theorem d_M_does_137 : decode b_M_does 137 = .ok (.iload_n 1, 1) := by decide +kernel
theorem d_M_does_138 : decode b_M_does 138 = .ok (.iaload, 1) := by decide +kernel
theorem d_M_does_139 : decode b_M_does 139 = .ok (.iastore, 1) := by decide +kernel
theorem d_M_does_140 : decode b_M_does 140 = .ok (.aload_n 0, 1) := by decide +kernel
theorem d_M_does_141 : decode b_M_does 141 = .ok (.getfield 48, 3) := by decide +kernel
theorem d_M_does_144 : decode b_M_does 144 = .ok (.iload_n 2, 1) := by decide +kernel
theorem d_M_does_145 : decode b_M_does 145 = .ok (.dup2, 1) := by decide +kernel
theorem d_M_does_146 : decode b_M_does 146 = .ok (.iaload, 1) := by decide +kernel
theorem d_M_does_147 : decode b_M_does 147 = .ok (.iconst 1, 1) := by decide +kernel
theorem d_M_does_148 : decode b_M_does 148 = .ok (.iadd, 1) := by decide +kernel
theorem d_M_does_149 : decode b_M_does 149 = .ok (.iastore, 1) := by decide +kernel
theorem d_M_does_150 : decode b_M_does 150 = .ok (.goto 193, 3) := by decide +kernel
theorem d_M_does_153 : decode b_M_does 153 = .ok (.aload_n 0, 1) := by decide +kernel
theorem d_M_does_154 : decode b_M_does 154 = .ok (.iload_n 2, 1) := by decide +kernel
theorem d_M_does_155 : decode b_M_does 155 = .ok (.aload_n 0, 1) := by decide +kernel
theorem d_M_does_156 : decode b_M_does 156 = .ok (.getfield 22, 3) := by decide +kernel
theorem d_M_does_159 : decode b_M_does 159 = .ok (.iload_n 1, 1) := by decide +kernel
theorem d_M_does_160 : decode b_M_does 160 = .ok (.iaload, 1) := by decide +kernel
theorem d_M_does_161 : decode b_M_does 161 = .ok (.iconst 1, 1) := by decide +kernel
theorem d_M_does_162 : decode b_M_does 162 = .ok (.isub, 1) := by decide +kernel
theorem d_M_does_163 : decode b_M_does 163 = .ok (.aload_n 0, 1) := by decide +kernel
theorem d_M_does_164 : decode b_M_does 164 = .ok (.getfield 25, 3) := by decide +kernel
theorem d_M_does_167 : decode b_M_does 167 = .ok (.iload_n 1, 1) := by decide +kernel
theorem d_M_does_168 : decode b_M_does 168 = .ok (.iaload, 1) := by decide +kernel
theorem d_M_does_169 : decode b_M_does 169 = .ok (.iconst 1, 1) := by decide +kernel
theorem d_M_does_170 : decode b_M_does 170 = .ok (.isub, 1) := by decide +kernel
theorem d_M_does_171 : decode b_M_does 171 = .ok (.invokevirtual 125, 3) := by decide +kernel
theorem d_M_does_174 : decode b_M_does 174 = .ok (.goto 169, 3) := by decide +kernel
theorem d_M_does_177 : decode b_M_does 177 = .ok (.aload_n 0, 1) := by decide +kernel
theorem d_M_does_178 : decode b_M_does 178 = .ok (.iload_n 2, 1) := by decide +kernel
theorem d_M_does_179 : decode b_M_does 179 = .ok (.aload_n 0, 1) := by decide +kernel
theorem d_M_does_180 : decode b_M_does 180 = .ok (.getfield 22, 3) := by decide +kernel
theorem d_M_does_183 : decode b_M_does 183 = .ok (.iload_n 1, 1) := by decide +kernel
theorem d_M_does_184 : decode b_M_does 184 = .ok (.iaload, 1) := by decide +kernel
theorem d_M_does_185 : decode b_M_does 185 = .ok (.iconst 1, 1) := by decide +kernel
theorem d_M_does_186 : decode b_M_does 186 = .ok (.isub, 1) := by decide +kernel
theorem d_M_does_187 : decode b_M_does 187 = .ok (.aload_n 0, 1) := by decide +kernel
theorem d_M_does_188 : decode b_M_does 188 = .ok (.getfield 48, 3) := by decide +kernel
theorem d_M_does_191 : decode b_M_does 191 = .ok (.iload_n 2, 1) := by decide +kernel
theorem d_M_does_192 : decode b_M_does 192 = .ok (.iaload, 1) := by decide +kernel
theorem d_M_does_193 : decode b_M_does 193 = .ok (.iconst 1, 1) := by decide +kernel
theorem d_M_does_194 : decode b_M_does 194 = .ok (.isub, 1) := by decide +kernel
theorem d_M_does_195 : decode b_M_does 195 = .ok (.invokevirtual 125, 3) := by decide +kernel
theorem d_M_does_198 : decode b_M_does 198 = .ok (.aload_n 0, 1) := by decide +kernel
theorem d_M_does_199 : decode b_M_does 199 = .ok (.getfield 48, 3) := by decide +kernel
theorem d_M_does_202 : decode b_M_does 202 = .ok (.iload_n 2, 1) := by decide +kernel
theorem d_M_does_203 : decode b_M_does 203 = .ok (.dup2, 1) := by decide +kernel
theorem d_M_does_204 : decode b_M_does 204 = .ok (.iaload, 1) := by decide +kernel
theorem d_M_does_205 : decode b_M_does 205 = .ok (.iconst 1, 1) := by decide +kernel
theorem d_M_does_206 : decode b_M_does 206 = .ok (.isub, 1) := by decide +kernel
theorem d_M_does_207 : decode b_M_does 207 = .ok (.iastore, 1) := by decide +kernel
theorem d_M_does_208 : decode b_M_does 208 = .ok (.goto 135, 3) := by decide +kernel
theorem d_M_does_211 : decode b_M_does 211 = .ok (.aload_n 0, 1) := by decide +kernel
theorem d_M_does_212 : decode b_M_does 212 = .ok (.getfield 57, 3) := by decide +kernel
theorem d_M_does_215 : decode b_M_does 215 = .ok (.iload_n 2, 1) := by decide +kernel
theorem d_M_does_216 : decode b_M_does 216 = .ok (.aload_n 0, 1) := by decide +kernel
theorem d_M_does_217 : decode b_M_does 217 = .ok (.getfield 57, 3) := by decide +kernel
theorem d_M_does_220 : decode b_M_does 220 = .ok (.iload_n 2, 1) := by decide +kernel
theorem d_M_does_221 : decode b_M_does 221 = .ok (.iaload, 1) := by decide +kernel
theorem d_M_does_222 : decode b_M_does 222 = .ok (.iconst 1, 1) := by decide +kernel
theorem d_M_does_223 : decode b_M_does 223 = .ok (.aload_n 0, 1) := by decide +kernel
theorem d_M_does_224 : decode b_M_does 224 = .ok (.getfield 22, 3) := by decide +kernel
theorem d_M_does_227 : decode b_M_does 227 = .ok (.iload_n 1, 1) := by decide +kernel
theorem d_M_does_228 : decode b_M_does 228 = .ok (.iaload, 1) := by decide +kernel
theorem d_M_does_229 : decode b_M_does 229 = .ok (.ishl, 1) := by decide +kernel
theorem d_M_does_230 : decode b_M_does 230 = .ok (.ixor, 1) := by decide +kernel
theorem d_M_does_231 : decode b_M_does 231 = .ok (.iastore, 1) := by decide +kernel
theorem d_M_does_232 : decode b_M_does 232 = .ok (.goto 111, 3) := by decide +kernel
theorem d_M_does_235 : decode b_M_does 235 = .ok (.aload_n 0, 1) := by decide +kernel
theorem d_M_does_236 : decode b_M_does 236 = .ok (.iconst 2, 1) := by decide +kernel
theorem d_M_does_237 : decode b_M_does 237 = .ok (.iload_n 1, 1) := by decide +kernel
theorem d_M_does_238 : decode b_M_does 238 = .ok (.imul, 1) := by decide +kernel
theorem d_M_does_239 : decode b_M_does 239 = .ok (.aload_n 0, 1) := by decide +kernel
theorem d_M_does_240 : decode b_M_does 240 = .ok (.getfield 22, 3) := by decide +kernel
theorem d_M_does_243 : decode b_M_does 243 = .ok (.iload_n 1, 1) := by decide +kernel
theorem d_M_does_244 : decode b_M_does 244 = .ok (.iaload, 1) := by decide +kernel
theorem d_M_does_245 : decode b_M_does 245 = .ok (.i2l, 1) := by decide +kernel
theorem d_M_does_246 : decode b_M_does 246 = .ok (.iload_n 2, 1) := by decide +kernel
theorem d_M_does_247 : decode b_M_does 247 = .ok (.invokevirtual 118, 3) := by decide +kernel
theorem d_M_does_250 : decode b_M_does 250 = .ok (.aload_n 0, 1) := by decide +kernel
theorem d_M_does_251 : decode b_M_does 251 = .ok (.iconst 2, 1) := by decide +kernel
theorem d_M_does_252 : decode b_M_does 252 = .ok (.iload_n 1, 1) := by decide +kernel
theorem d_M_does_253 : decode b_M_does 253 = .ok (.imul, 1) := by decide +kernel
theorem d_M_does_254 : decode b_M_does 254 = .ok (.iconst 1, 1) := by decide +kernel
theorem d_M_does_255 : decode b_M_does 255 = .ok (.iadd, 1) := by decide +kernel
theorem d_M_does_256 : decode b_M_does 256 = .ok (.aload_n 0, 1) := by decide +kernel
theorem d_M_does_257 : decode b_M_does 257 = .ok (.getfield 38, 3) := by decide +kernel
theorem d_M_does_260 : decode b_M_does 260 = .ok (.iload_n 2, 1) := by decide +kernel
theorem d_M_does_261 : decode b_M_does 261 = .ok (.laload, 1) := by decide +kernel
theorem d_M_does_262 : decode b_M_does 262 = .ok (.aload_n 0, 1) := by decide +kernel
theorem d_M_does_263 : decode b_M_does 263 = .ok (.getfield 22, 3) := by decide +kernel
theorem d_M_does_266 : decode b_M_does 266 = .ok (.iload_n 1, 1) := by decide +kernel
theorem d_M_does_267 : decode b_M_does 267 = .ok (.iaload, 1) := by decide +kernel
theorem d_M_does_268 : decode b_M_does 268 = .ok (.i2l, 1) := by decide +kernel
theorem d_M_does_269 : decode b_M_does 269 = .ok (.lsub, 1) := by decide +kernel
theorem d_M_does_270 : decode b_M_does 270 = .ok (.iload_n 2, 1) := by decide +kernel
theorem d_M_does_271 : decode b_M_does 271 = .ok (.invokevirtual 118, 3) := by decide +kernel
theorem d_M_does_274 : decode b_M_does 274 = .ok (.aload_n 0, 1) := by decide +kernel
theorem d_M_does_275 : decode b_M_does 275 = .ok (.getfield 34, 3) := by decide +kernel
theorem d_M_does_278 : decode b_M_does 278 = .ok (.iload_n 2, 1) := by decide +kernel
theorem d_M_does_279 : decode b_M_does 279 = .ok (.iconst 0, 1) := by decide +kernel
theorem d_M_does_280 : decode b_M_does 280 = .ok (.bastore, 1) := by decide +kernel
theorem d_M_does_281 : decode b_M_does 281 = .ok (.goto 62, 3) := by decide +kernel
theorem d_M_does_284 : decode b_M_does 284 = .ok (.aload_n 0, 1) := by decide +kernel
theorem d_M_does_285 : decode b_M_does 285 = .ok (.iconst 2, 1) := by decide +kernel
theorem d_M_does_286 : decode b_M_does 286 = .ok (.iload_n 1, 1) := by decide +kernel
theorem d_M_does_287 : decode b_M_does 287 = .ok (.imul, 1) := by decide +kernel
theorem d_M_does_288 : decode b_M_does 288 = .ok (.aload_n 0, 1) := by decide +kernel
theorem d_M_does_289 : decode b_M_does 289 = .ok (.getfield 38, 3) := by decide +kernel
theorem d_M_does_292 : decode b_M_does 292 = .ok (.iload_n 2, 1) := by decide +kernel
theorem d_M_does_293 : decode b_M_does 293 = .ok (.laload, 1) := by decide +kernel
theorem d_M_does_294 : decode b_M_does 294 = .ok (.aload_n 0, 1) := by decide +kernel
theorem d_M_does_295 : decode b_M_does 295 = .ok (.getfield 38, 3) := by decide +kernel
theorem d_M_does_298 : decode b_M_does 298 = .ok (.aload_n 0, 1) := by decide +kernel
theorem d_M_does_299 : decode b_M_does 299 = .ok (.getfield 22, 3) := by decide +kernel
theorem d_M_does_302 : decode b_M_does 302 = .ok (.iload_n 1, 1) := by decide +kernel
theorem d_M_does_303 : decode b_M_does 303 = .ok (.iaload, 1) := by decide +kernel
theorem d_M_does_304 : decode b_M_does 304 = .ok (.laload, 1) := by decide +kernel
theorem d_M_does_305 : decode b_M_does 305 = .ok (.ladd, 1) := by decide +kernel
theorem d_M_does_306 : decode b_M_does 306 = .ok (.iload_n 2, 1) := by decide +kernel
theorem d_M_does_307 : decode b_M_does 307 = .ok (.invokevirtual 118, 3) := by decide +kernel
theorem d_M_does_310 : decode b_M_does 310 = .ok (.aload_n 0, 1) := by decide +kernel
theorem d_M_does_311 : decode b_M_does 311 = .ok (.getfield 63, 3) := by decide +kernel
theorem d_M_does_314 : decode b_M_does 314 = .ok (.iconst 2, 1) := by decide +kernel
theorem d_M_does_315 : decode b_M_does 315 = .ok (.iload_n 1, 1) := by decide +kernel
theorem d_M_does_316 : decode b_M_does 316 = .ok (.imul, 1) := by decide +kernel
theorem d_M_does_317 : decode b_M_does 317 = .ok (.aload_n 0, 1) := by decide +kernel
theorem d_M_does_318 : decode b_M_does 318 = .ok (.getfield 22, 3) := by decide +kernel
theorem d_M_does_321 : decode b_M_does 321 = .ok (.iload_n 1, 1) := by decide +kernel
theorem d_M_does_322 : decode b_M_does 322 = .ok (.iaload, 1) := by decide +kernel
theorem d_M_does_323 : decode b_M_does 323 = .ok (.iastore, 1) := by decide +kernel
theorem d_M_does_324 : decode b_M_does 324 = .ok (.aload_n 0, 1) := by decide +kernel
theorem d_M_does_325 : decode b_M_does 325 = .ok (.getfield 34, 3) := by decide +kernel
theorem d_M_does_328 : decode b_M_does 328 = .ok (.iload_n 2, 1) := by decide +kernel
theorem d_M_does_329 : decode b_M_does 329 = .ok (.iconst 0, 1) := by decide +kernel
theorem d_M_does_330 : decode b_M_does 330 = .ok (.bastore, 1) := by decide +kernel
theorem d_M_does_331 : decode b_M_does 331 = .ok (.aload_n 0, 1) := by decide +kernel
theorem d_M_does_332 : decode b_M_does 332 = .ok (.getfield 34, 3) := by decide +kernel
theorem d_M_does_335 : decode b_M_does 335 = .ok (.aload_n 0, 1) := by decide +kernel
theorem d_M_does_336 : decode b_M_does 336 = .ok (.getfield 22, 3) := by decide +kernel
theorem d_M_does_339 : decode b_M_does 339 = .ok (.iload_n 1, 1) := by decide +kernel
theorem d_M_does_340 : decode b_M_does 340 = .ok (.iaload, 1) := by decide +kernel
theorem d_M_does_341 : decode b_M_does 341 = .ok (.iconst 0, 1) := by decide +kernel
theorem d_M_does_342 : decode b_M_does 342 = .ok (.bastore, 1) := by decide +kernel
theorem d_M_does_343 : decode b_M_does 343 = .ok (.return_, 1) := by decide +kernel
theorem d_M_noPerson_0 : decode b_M_noPerson 0 = .ok (.iload_n 0, 1) := by decide +kernel
theorem d_M_noPerson_1 : decode b_M_noPerson 1 = .ok (.ifCond .lt 9, 3) := by decide +kernel
theorem d_M_noPerson_4 : decode b_M_noPerson 4 = .ok (.iload_n 0, 1) := by decide +kernel
theorem d_M_noPerson_5 : decode b_M_noPerson 5 = .ok (.bipush 7, 2) := by decide +kernel
theorem d_M_noPerson_7 : decode b_M_noPerson 7 = .ok (.if_icmp .le 7, 3) := by decide +kernel
theorem d_M_noPerson_10 : decode b_M_noPerson 10 = .ok (.iconst 1, 1) := by decide +kernel
theorem d_M_noPerson_11 : decode b_M_noPerson 11 = .ok (.goto 4, 3) := by decide +kernel
theorem d_M_noPerson_14 : decode b_M_noPerson 14 = .ok (.iconst 0, 1) := by decide +kernel
theorem d_M_noPerson_15 : decode b_M_noPerson 15 = .ok (.ireturn, 1) := by decide +kernel
theorem d_M_noParcel_0 : decode b_M_noParcel 0 = .ok (.iload_n 0, 1) := by decide +kernel
theorem d_M_noParcel_1 : decode b_M_noParcel 1 = .ok (.ifCond .lt 9, 3) := by decide +kernel
theorem d_M_noParcel_4 : decode b_M_noParcel 4 = .ok (.iload_n 0, 1) := by decide +kernel
theorem d_M_noParcel_5 : decode b_M_noParcel 5 = .ok (.bipush 79, 2) := by decide +kernel
theorem d_M_noParcel_7 : decode b_M_noParcel 7 = .ok (.if_icmp .le 7, 3) := by decide +kernel
theorem d_M_noParcel_10 : decode b_M_noParcel 10 = .ok (.iconst 1, 1) := by decide +kernel
theorem d_M_noParcel_11 : decode b_M_noParcel 11 = .ok (.goto 4, 3) := by decide +kernel
theorem d_M_noParcel_14 : decode b_M_noParcel 14 = .ok (.iconst 0, 1) := by decide +kernel
theorem d_M_noParcel_15 : decode b_M_noParcel 15 = .ok (.ireturn, 1) := by decide +kernel
theorem d_M_noAmount_0 : decode b_M_noAmount 0 = .ok (.iload_n 0, 1) := by decide +kernel
theorem d_M_noAmount_1 : decode b_M_noAmount 1 = .ok (.iconst 1, 1) := by decide +kernel
theorem d_M_noAmount_2 : decode b_M_noAmount 2 = .ok (.if_icmp .lt 9, 3) := by decide +kernel
theorem d_M_noAmount_5 : decode b_M_noAmount 5 = .ok (.iload_n 0, 1) := by decide +kernel
theorem d_M_noAmount_6 : decode b_M_noAmount 6 = .ok (.ldc 129, 2) := by decide +kernel
theorem d_M_noAmount_8 : decode b_M_noAmount 8 = .ok (.if_icmp .le 7, 3) := by decide +kernel
theorem d_M_noAmount_11 : decode b_M_noAmount 11 = .ok (.iconst 1, 1) := by decide +kernel
theorem d_M_noAmount_12 : decode b_M_noAmount 12 = .ok (.goto 4, 3) := by decide +kernel
theorem d_M_noAmount_15 : decode b_M_noAmount 15 = .ok (.iconst 0, 1) := by decide +kernel
theorem d_M_noAmount_16 : decode b_M_noAmount 16 = .ok (.ireturn, 1) := by decide +kernel
theorem d_M_file_0 : decode b_M_file 0 = .ok (.aload_n 0, 1) := by decide +kernel
theorem d_M_file_1 : decode b_M_file 1 = .ok (.iload_n 1, 1) := by decide +kernel
theorem d_M_file_2 : decode b_M_file 2 = .ok (.ifCond .ne 15, 3) := by decide +kernel
theorem d_M_file_5 : decode b_M_file 5 = .ok (.iload_n 2, 1) := by decide +kernel
theorem d_M_file_6 : decode b_M_file 6 = .ok (.ifCond .lt 11, 3) := by decide +kernel
theorem d_M_file_9 : decode b_M_file 9 = .ok (.iload_n 2, 1) := by decide +kernel
theorem d_M_file_10 : decode b_M_file 10 = .ok (.aload_n 0, 1) := by decide +kernel
theorem d_M_file_11 : decode b_M_file 11 = .ok (.getfield 130, 3) := by decide +kernel
theorem d_M_file_14 : decode b_M_file 14 = .ok (.if_icmp .le 7, 3) := by decide +kernel
theorem d_M_file_17 : decode b_M_file 17 = .ok (.iconst 1, 1) := by decide +kernel
theorem d_M_file_18 : decode b_M_file 18 = .ok (.goto 17, 3) := by decide +kernel
theorem d_M_file_21 : decode b_M_file 21 = .ok (.aload_n 0, 1) := by decide +kernel
theorem d_M_file_22 : decode b_M_file 22 = .ok (.getfield 74, 3) := by decide +kernel
theorem d_M_file_25 : decode b_M_file 25 = .ok (.bipush 40, 2) := by decide +kernel
theorem d_M_file_27 : decode b_M_file 27 = .ok (.if_icmp .ne 7, 3) := by decide +kernel
theorem d_M_file_30 : decode b_M_file 30 = .ok (.iconst 2, 1) := by decide +kernel
theorem d_M_file_31 : decode b_M_file 31 = .ok (.goto 4, 3) := by decide +kernel
theorem d_M_file_34 : decode b_M_file 34 = .ok (.iconst 0, 1) := by decide +kernel
theorem d_M_file_35 : decode b_M_file 35 = .ok (.putfield 70, 3) := by decide +kernel
theorem d_M_file_38 : decode b_M_file 38 = .ok (.aload_n 0, 1) := by decide +kernel
theorem d_M_file_39 : decode b_M_file 39 = .ok (.getfield 70, 3) := by decide +kernel
theorem d_M_file_42 : decode b_M_file 42 = .ok (.ifCond .le 5, 3) := by decide +kernel
theorem d_M_file_45 : decode b_M_file 45 = .ok (.iconst 0, 1) := by decide +kernel
theorem d_M_file_46 : decode b_M_file 46 = .ok (.ireturn, 1) := by decide +kernel
theorem d_M_file_47 : decode b_M_file 47 = .ok (.aload_n 0, 1) := by decide +kernel
theorem d_M_file_48 : decode b_M_file 48 = .ok (.getfield 7, 3) := by decide +kernel
theorem d_M_file_51 : decode b_M_file 51 = .ok (.aload_n 0, 1) := by decide +kernel
theorem d_M_file_52 : decode b_M_file 52 = .ok (.getfield 74, 3) := by decide +kernel
theorem d_M_file_55 : decode b_M_file 55 = .ok (.iload_n 3, 1) := by decide +kernel
theorem d_M_file_56 : decode b_M_file 56 = .ok (.iastore, 1) := by decide +kernel
theorem d_M_file_57 : decode b_M_file 57 = .ok (.aload_n 0, 1) := by decide +kernel
theorem d_M_file_58 : decode b_M_file 58 = .ok (.getfield 13, 3) := by decide +kernel
theorem d_M_file_61 : decode b_M_file 61 = .ok (.aload_n 0, 1) := by decide +kernel
theorem d_M_file_62 : decode b_M_file 62 = .ok (.getfield 74, 3) := by decide +kernel
theorem d_M_file_65 : decode b_M_file 65 = .ok (.aload_n 0, 1) := by decide +kernel
theorem d_M_file_66 : decode b_M_file 66 = .ok (.getfield 130, 3) := by decide +kernel
theorem d_M_file_69 : decode b_M_file 69 = .ok (.iastore, 1) := by decide +kernel
theorem d_M_file_70 : decode b_M_file 70 = .ok (.aload_n 0, 1) := by decide +kernel
theorem d_M_file_71 : decode b_M_file 71 = .ok (.getfield 16, 3) := by decide +kernel
theorem d_M_file_74 : decode b_M_file 74 = .ok (.aload_n 0, 1) := by decide +kernel
theorem d_M_file_75 : decode b_M_file 75 = .ok (.getfield 74, 3) := by decide +kernel
theorem d_M_file_78 : decode b_M_file 78 = .ok (.iload_n 2, 1) := by decide +kernel
theorem d_M_file_79 : decode b_M_file 79 = .ok (.iastore, 1) := by decide +kernel
theorem d_M_file_80 : decode b_M_file 80 = .ok (.aload_n 0, 1) := by decide +kernel
theorem d_M_file_81 : decode b_M_file 81 = .ok (.getfield 19, 3) := by decide +kernel
theorem d_M_file_84 : decode b_M_file 84 = .ok (.aload_n 0, 1) := by decide +kernel
theorem d_M_file_85 : decode b_M_file 85 = .ok (.getfield 74, 3) := by decide +kernel
theorem d_M_file_88 : decode b_M_file 88 = .ok (.iload 4, 2) := by decide +kernel
theorem d_M_file_90 : decode b_M_file 90 = .ok (.iastore, 1) := by decide +kernel
theorem d_M_file_91 : decode b_M_file 91 = .ok (.aload_n 0, 1) := by decide +kernel
theorem d_M_file_92 : decode b_M_file 92 = .ok (.getfield 22, 3) := by decide +kernel
theorem d_M_file_95 : decode b_M_file 95 = .ok (.aload_n 0, 1) := by decide +kernel
theorem d_M_file_96 : decode b_M_file 96 = .ok (.getfield 74, 3) := by decide +kernel
theorem d_M_file_99 : decode b_M_file 99 = .ok (.iload 5, 2) := by decide +kernel
theorem d_M_file_101 : decode b_M_file 101 = .ok (.iastore, 1) := by decide +kernel
theorem d_M_file_102 : decode b_M_file 102 = .ok (.aload_n 0, 1) := by decide +kernel
theorem d_M_file_103 : decode b_M_file 103 = .ok (.getfield 25, 3) := by decide +kernel
theorem d_M_file_106 : decode b_M_file 106 = .ok (.aload_n 0, 1) := by decide +kernel
theorem d_M_file_107 : decode b_M_file 107 = .ok (.getfield 74, 3) := by decide +kernel
theorem d_M_file_110 : decode b_M_file 110 = .ok (.iload 6, 2) := by decide +kernel
theorem d_M_file_112 : decode b_M_file 112 = .ok (.iastore, 1) := by decide +kernel
theorem d_M_file_113 : decode b_M_file 113 = .ok (.aload_n 0, 1) := by decide +kernel
theorem d_M_file_114 : decode b_M_file 114 = .ok (.getfield 28, 3) := by decide +kernel
theorem d_M_file_117 : decode b_M_file 117 = .ok (.aload_n 0, 1) := by decide +kernel
theorem d_M_file_118 : decode b_M_file 118 = .ok (.getfield 74, 3) := by decide +kernel
theorem d_M_file_121 : decode b_M_file 121 = .ok (.iload 7, 2) := by decide +kernel
theorem d_M_file_123 : decode b_M_file 123 = .ok (.iastore, 1) := by decide +kernel
theorem d_M_file_124 : decode b_M_file 124 = .ok (.aload_n 0, 1) := by decide +kernel
theorem d_M_file_125 : decode b_M_file 125 = .ok (.dup, 1) := by decide +kernel
theorem d_M_file_126 : decode b_M_file 126 = .ok (.getfield 74, 3) := by decide +kernel
theorem d_M_file_129 : decode b_M_file 129 = .ok (.iconst 1, 1) := by decide +kernel
theorem d_M_file_130 : decode b_M_file 130 = .ok (.iadd, 1) := by decide +kernel
theorem d_M_file_131 : decode b_M_file 131 = .ok (.putfield 74, 3) := by decide +kernel
theorem d_M_file_134 : decode b_M_file 134 = .ok (.aload_n 0, 1) := by decide +kernel
theorem d_M_file_135 : decode b_M_file 135 = .ok (.aload_n 0, 1) := by decide +kernel
theorem d_M_file_136 : decode b_M_file 136 = .ok (.getfield 130, 3) := by decide +kernel
theorem d_M_file_139 : decode b_M_file 139 = .ok (.aload_n 0, 1) := by decide +kernel
theorem d_M_file_140 : decode b_M_file 140 = .ok (.getfield 130, 3) := by decide +kernel
theorem d_M_file_143 : decode b_M_file 143 = .ok (.invokevirtual 66, 3) := by decide +kernel
theorem d_M_file_146 : decode b_M_file 146 = .ok (.aload_n 0, 1) := by decide +kernel
theorem d_M_file_147 : decode b_M_file 147 = .ok (.getfield 74, 3) := by decide +kernel
theorem d_M_file_150 : decode b_M_file 150 = .ok (.iconst 1, 1) := by decide +kernel
theorem d_M_file_151 : decode b_M_file 151 = .ok (.isub, 1) := by decide +kernel
theorem d_M_file_152 : decode b_M_file 152 = .ok (.ireturn, 1) := by decide +kernel
theorem d_M_found_0 : decode b_M_found 0 = .ok (.aload_n 0, 1) := by decide +kernel
theorem d_M_found_1 : decode b_M_found 1 = .ok (.iload_n 2, 1) := by decide +kernel
theorem d_M_found_2 : decode b_M_found 2 = .ok (.invokestatic 133, 3) := by decide +kernel
theorem d_M_found_5 : decode b_M_found 5 = .ok (.ifCond .ne 10, 3) := by decide +kernel
theorem d_M_found_8 : decode b_M_found 8 = .ok (.iload_n 3, 1) := by decide +kernel
theorem d_M_found_9 : decode b_M_found 9 = .ok (.invokestatic 136, 3) := by decide +kernel
theorem d_M_found_12 : decode b_M_found 12 = .ok (.ifCond .eq 7, 3) := by decide +kernel
theorem d_M_found_15 : decode b_M_found 15 = .ok (.iconst 1, 1) := by decide +kernel
theorem d_M_found_16 : decode b_M_found 16 = .ok (.goto 4, 3) := by decide +kernel
theorem d_M_found_19 : decode b_M_found 19 = .ok (.iconst 0, 1) := by decide +kernel
theorem d_M_found_20 : decode b_M_found 20 = .ok (.iload_n 1, 1) := by decide +kernel
theorem d_M_found_21 : decode b_M_found 21 = .ok (.iconst 0, 1) := by decide +kernel
theorem d_M_found_22 : decode b_M_found 22 = .ok (.iload_n 2, 1) := by decide +kernel
theorem d_M_found_23 : decode b_M_found 23 = .ok (.iload_n 3, 1) := by decide +kernel
theorem d_M_found_24 : decode b_M_found 24 = .ok (.iconst 0, 1) := by decide +kernel
theorem d_M_found_25 : decode b_M_found 25 = .ok (.iconst 0, 1) := by decide +kernel
theorem d_M_found_26 : decode b_M_found 26 = .ok (.invokevirtual 139, 3) := by decide +kernel
theorem d_M_found_29 : decode b_M_found 29 = .ok (.ireturn, 1) := by decide +kernel
theorem d_M_sell_0 : decode b_M_sell 0 = .ok (.lload 5, 2) := by decide +kernel
theorem d_M_sell_2 : decode b_M_sell 2 = .ok (.bipush 32, 2) := by decide +kernel
theorem d_M_sell_4 : decode b_M_sell 4 = .ok (.lshr, 1) := by decide +kernel
theorem d_M_sell_5 : decode b_M_sell 5 = .ok (.lstore 7, 2) := by decide +kernel
theorem d_M_sell_7 : decode b_M_sell 7 = .ok (.lload 5, 2) := by decide +kernel
theorem d_M_sell_9 : decode b_M_sell 9 = .ok (.ldc2_w 143, 3) := by decide +kernel
theorem d_M_sell_12 : decode b_M_sell 12 = .ok (.land, 1) := by decide +kernel
theorem d_M_sell_13 : decode b_M_sell 13 = .ok (.lstore 9, 2) := by decide +kernel
theorem d_M_sell_15 : decode b_M_sell 15 = .ok (.iload_n 2, 1) := by decide +kernel
theorem d_M_sell_16 : decode b_M_sell 16 = .ok (.invokestatic 145, 3) := by decide +kernel
theorem d_M_sell_19 : decode b_M_sell 19 = .ok (.ifCond .ne 55, 3) := by decide +kernel
theorem d_M_sell_22 : decode b_M_sell 22 = .ok (.iload_n 3, 1) := by decide +kernel
theorem d_M_sell_23 : decode b_M_sell 23 = .ok (.invokestatic 136, 3) := by decide +kernel
theorem d_M_sell_26 : decode b_M_sell 26 = .ok (.ifCond .ne 48, 3) := by decide +kernel
theorem d_M_sell_29 : decode b_M_sell 29 = .ok (.iload 4, 2) := by decide +kernel
theorem d_M_sell_31 : decode b_M_sell 31 = .ok (.invokestatic 136, 3) := by decide +kernel
theorem d_M_sell_34 : decode b_M_sell 34 = .ok (.ifCond .ne 40, 3) := by decide +kernel
theorem d_M_sell_37 : decode b_M_sell 37 = .ok (.iload_n 3, 1) := by decide +kernel
theorem d_M_sell_38 : decode b_M_sell 38 = .ok (.iload 4, 2) := by decide +kernel
theorem d_M_sell_40 : decode b_M_sell 40 = .ok (.if_icmp .eq 34, 3) := by decide +kernel
theorem d_M_sell_43 : decode b_M_sell 43 = .ok (.lload 9, 2) := by decide +kernel
theorem d_M_sell_45 : decode b_M_sell 45 = .ok (.lconst 1, 1) := by decide +kernel
theorem d_M_sell_46 : decode b_M_sell 46 = .ok (.lcmp, 1) := by decide +kernel
theorem d_M_sell_47 : decode b_M_sell 47 = .ok (.ifCond .lt 27, 3) := by decide +kernel
theorem d_M_sell_50 : decode b_M_sell 50 = .ok (.lload 9, 2) := by decide +kernel
theorem d_M_sell_52 : decode b_M_sell 52 = .ok (.ldc2_w 109, 3) := by decide +kernel
theorem d_M_sell_55 : decode b_M_sell 55 = .ok (.lcmp, 1) := by decide +kernel
theorem d_M_sell_56 : decode b_M_sell 56 = .ok (.ifCond .gt 18, 3) := by decide +kernel
theorem d_M_sell_59 : decode b_M_sell 59 = .ok (.lload 7, 2) := by decide +kernel
theorem d_M_sell_61 : decode b_M_sell 61 = .ok (.lconst 1, 1) := by decide +kernel
theorem d_M_sell_62 : decode b_M_sell 62 = .ok (.lcmp, 1) := by decide +kernel
theorem d_M_sell_63 : decode b_M_sell 63 = .ok (.ifCond .lt 11, 3) := by decide +kernel
theorem d_M_sell_66 : decode b_M_sell 66 = .ok (.lload 7, 2) := by decide +kernel
theorem d_M_sell_68 : decode b_M_sell 68 = .ok (.lload 9, 2) := by decide +kernel
theorem d_M_sell_70 : decode b_M_sell 70 = .ok (.lcmp, 1) := by decide +kernel
theorem d_M_sell_71 : decode b_M_sell 71 = .ok (.ifCond .le 7, 3) := by decide +kernel
theorem d_M_sell_74 : decode b_M_sell 74 = .ok (.iconst 1, 1) := by decide +kernel
theorem d_M_sell_75 : decode b_M_sell 75 = .ok (.goto 4, 3) := by decide +kernel
theorem d_M_sell_78 : decode b_M_sell 78 = .ok (.iconst 0, 1) := by decide +kernel
theorem d_M_sell_79 : decode b_M_sell 79 = .ok (.istore 11, 2) := by decide +kernel
theorem d_M_sell_81 : decode b_M_sell 81 = .ok (.aload_n 0, 1) := by decide +kernel
theorem d_M_sell_82 : decode b_M_sell 82 = .ok (.iload 11, 2) := by decide +kernel
theorem d_M_sell_84 : decode b_M_sell 84 = .ok (.iload_n 1, 1) := by decide +kernel
theorem d_M_sell_85 : decode b_M_sell 85 = .ok (.iconst 1, 1) := by decide +kernel
theorem d_M_sell_86 : decode b_M_sell 86 = .ok (.iload_n 2, 1) := by decide +kernel
theorem d_M_sell_87 : decode b_M_sell 87 = .ok (.bipush 8, 2) := by decide +kernel
theorem d_M_sell_89 : decode b_M_sell 89 = .ok (.iload_n 3, 1) := by decide +kernel
theorem d_M_sell_90 : decode b_M_sell 90 = .ok (.imul, 1) := by decide +kernel
theorem d_M_sell_91 : decode b_M_sell 91 = .ok (.iload 4, 2) := by decide +kernel
theorem d_M_sell_93 : decode b_M_sell 93 = .ok (.iadd, 1) := by decide +kernel
theorem d_M_sell_94 : decode b_M_sell 94 = .ok (.lload 7, 2) := by decide +kernel
theorem d_M_sell_96 : decode b_M_sell 96 = .ok (.l2i, 1) := by decide +kernel
theorem d_M_sell_97 : decode b_M_sell 97 = .ok (.lload 9, 2) := by decide +kernel
theorem d_M_sell_99 : decode b_M_sell 99 = .ok (.l2i, 1) := by decide +kernel
theorem d_M_sell_100 : decode b_M_sell 100 = .ok (.invokevirtual 139, 3) := by decide +kernel
theorem d_M_sell_103 : decode b_M_sell 103 = .ok (.ireturn, 1) := by decide +kernel
theorem d_M_pledge_0 : decode b_M_pledge 0 = .ok (.aload_n 0, 1) := by decide +kernel
theorem d_M_pledge_1 : decode b_M_pledge 1 = .ok (.iload_n 2, 1) := by decide +kernel
theorem d_M_pledge_2 : decode b_M_pledge 2 = .ok (.invokestatic 145, 3) := by decide +kernel
theorem d_M_pledge_5 : decode b_M_pledge 5 = .ok (.ifCond .ne 18, 3) := by decide +kernel
theorem d_M_pledge_8 : decode b_M_pledge 8 = .ok (.iload_n 3, 1) := by decide +kernel
theorem d_M_pledge_9 : decode b_M_pledge 9 = .ok (.invokestatic 136, 3) := by decide +kernel
theorem d_M_pledge_12 : decode b_M_pledge 12 = .ok (.ifCond .ne 11, 3) := by decide +kernel
theorem d_M_pledge_15 : decode b_M_pledge 15 = .ok (.iload 4, 2) := by decide +kernel
theorem d_M_pledge_17 : decode b_M_pledge 17 = .ok (.invokestatic 133, 3) := by decide +kernel
theorem d_M_pledge_20 : decode b_M_pledge 20 = .ok (.ifCond .eq 7, 3) := by decide +kernel
theorem d_M_pledge_23 : decode b_M_pledge 23 = .ok (.iconst 1, 1) := by decide +kernel
theorem d_M_pledge_24 : decode b_M_pledge 24 = .ok (.goto 4, 3) := by decide +kernel
theorem d_M_pledge_27 : decode b_M_pledge 27 = .ok (.iconst 0, 1) := by decide +kernel
theorem d_M_pledge_28 : decode b_M_pledge 28 = .ok (.iload_n 1, 1) := by decide +kernel
theorem d_M_pledge_29 : decode b_M_pledge 29 = .ok (.iconst 2, 1) := by decide +kernel
theorem d_M_pledge_30 : decode b_M_pledge 30 = .ok (.iload_n 2, 1) := by decide +kernel
theorem d_M_pledge_31 : decode b_M_pledge 31 = .ok (.iload_n 3, 1) := by decide +kernel
theorem d_M_pledge_32 : decode b_M_pledge 32 = .ok (.iload 4, 2) := by decide +kernel
theorem d_M_pledge_34 : decode b_M_pledge 34 = .ok (.iconst 0, 1) := by decide +kernel
theorem d_M_pledge_35 : decode b_M_pledge 35 = .ok (.invokevirtual 139, 3) := by decide +kernel
theorem d_M_pledge_38 : decode b_M_pledge 38 = .ok (.ireturn, 1) := by decide +kernel
theorem d_M_rerank_0 : decode b_M_rerank 0 = .ok (.aload_n 0, 1) := by decide +kernel
theorem d_M_rerank_1 : decode b_M_rerank 1 = .ok (.iload_n 2, 1) := by decide +kernel
theorem d_M_rerank_2 : decode b_M_rerank 2 = .ok (.invokestatic 145, 3) := by decide +kernel
theorem d_M_rerank_5 : decode b_M_rerank 5 = .ok (.ifCond .ne 31, 3) := by decide +kernel
theorem d_M_rerank_8 : decode b_M_rerank 8 = .ok (.iload_n 3, 1) := by decide +kernel
theorem d_M_rerank_9 : decode b_M_rerank 9 = .ok (.iconst 1, 1) := by decide +kernel
theorem d_M_rerank_10 : decode b_M_rerank 10 = .ok (.if_icmp .lt 26, 3) := by decide +kernel
theorem d_M_rerank_13 : decode b_M_rerank 13 = .ok (.iload_n 3, 1) := by decide +kernel
theorem d_M_rerank_14 : decode b_M_rerank 14 = .ok (.iconst 4, 1) := by decide +kernel
theorem d_M_rerank_15 : decode b_M_rerank 15 = .ok (.if_icmp .gt 21, 3) := by decide +kernel
theorem d_M_rerank_18 : decode b_M_rerank 18 = .ok (.iload 4, 2) := by decide +kernel
theorem d_M_rerank_20 : decode b_M_rerank 20 = .ok (.iconst 1, 1) := by decide +kernel
theorem d_M_rerank_21 : decode b_M_rerank 21 = .ok (.if_icmp .lt 15, 3) := by decide +kernel
theorem d_M_rerank_24 : decode b_M_rerank 24 = .ok (.iload 4, 2) := by decide +kernel
theorem d_M_rerank_26 : decode b_M_rerank 26 = .ok (.iconst 4, 1) := by decide +kernel
theorem d_M_rerank_27 : decode b_M_rerank 27 = .ok (.if_icmp .gt 9, 3) := by decide +kernel
theorem d_M_rerank_30 : decode b_M_rerank 30 = .ok (.iload_n 3, 1) := by decide +kernel
theorem d_M_rerank_31 : decode b_M_rerank 31 = .ok (.iload 4, 2) := by decide +kernel
theorem d_M_rerank_33 : decode b_M_rerank 33 = .ok (.if_icmp .ne 7, 3) := by decide +kernel
theorem d_M_rerank_36 : decode b_M_rerank 36 = .ok (.iconst 1, 1) := by decide +kernel
theorem d_M_rerank_37 : decode b_M_rerank 37 = .ok (.goto 4, 3) := by decide +kernel
theorem d_M_rerank_40 : decode b_M_rerank 40 = .ok (.iconst 0, 1) := by decide +kernel
theorem d_M_rerank_41 : decode b_M_rerank 41 = .ok (.iload_n 1, 1) := by decide +kernel
theorem d_M_rerank_42 : decode b_M_rerank 42 = .ok (.iconst 3, 1) := by decide +kernel
theorem d_M_rerank_43 : decode b_M_rerank 43 = .ok (.iload_n 2, 1) := by decide +kernel
theorem d_M_rerank_44 : decode b_M_rerank 44 = .ok (.iload_n 3, 1) := by decide +kernel
theorem d_M_rerank_45 : decode b_M_rerank 45 = .ok (.iload 4, 2) := by decide +kernel
theorem d_M_rerank_47 : decode b_M_rerank 47 = .ok (.iload 5, 2) := by decide +kernel
theorem d_M_rerank_49 : decode b_M_rerank 49 = .ok (.invokevirtual 139, 3) := by decide +kernel
theorem d_M_rerank_52 : decode b_M_rerank 52 = .ok (.ireturn, 1) := by decide +kernel
theorem d_M_release_0 : decode b_M_release 0 = .ok (.aload_n 0, 1) := by decide +kernel
theorem d_M_release_1 : decode b_M_release 1 = .ok (.iload_n 2, 1) := by decide +kernel
theorem d_M_release_2 : decode b_M_release 2 = .ok (.invokestatic 145, 3) := by decide +kernel
theorem d_M_release_5 : decode b_M_release 5 = .ok (.ifCond .ne 13, 3) := by decide +kernel
theorem d_M_release_8 : decode b_M_release 8 = .ok (.iload_n 3, 1) := by decide +kernel
theorem d_M_release_9 : decode b_M_release 9 = .ok (.iconst 1, 1) := by decide +kernel
theorem d_M_release_10 : decode b_M_release 10 = .ok (.if_icmp .lt 8, 3) := by decide +kernel
theorem d_M_release_13 : decode b_M_release 13 = .ok (.iload_n 3, 1) := by decide +kernel
theorem d_M_release_14 : decode b_M_release 14 = .ok (.iconst 4, 1) := by decide +kernel
theorem d_M_release_15 : decode b_M_release 15 = .ok (.if_icmp .le 7, 3) := by decide +kernel
theorem d_M_release_18 : decode b_M_release 18 = .ok (.iconst 1, 1) := by decide +kernel
theorem d_M_release_19 : decode b_M_release 19 = .ok (.goto 4, 3) := by decide +kernel
theorem d_M_release_22 : decode b_M_release 22 = .ok (.iconst 0, 1) := by decide +kernel
theorem d_M_release_23 : decode b_M_release 23 = .ok (.iload_n 1, 1) := by decide +kernel
theorem d_M_release_24 : decode b_M_release 24 = .ok (.iconst 4, 1) := by decide +kernel
theorem d_M_release_25 : decode b_M_release 25 = .ok (.iload_n 2, 1) := by decide +kernel
theorem d_M_release_26 : decode b_M_release 26 = .ok (.iload_n 3, 1) := by decide +kernel
theorem d_M_release_27 : decode b_M_release 27 = .ok (.iconst 0, 1) := by decide +kernel
theorem d_M_release_28 : decode b_M_release 28 = .ok (.iconst 0, 1) := by decide +kernel
theorem d_M_release_29 : decode b_M_release 29 = .ok (.invokevirtual 139, 3) := by decide +kernel
theorem d_M_release_32 : decode b_M_release 32 = .ok (.ireturn, 1) := by decide +kernel
theorem d_M_caution_0 : decode b_M_caution 0 = .ok (.aload_n 0, 1) := by decide +kernel
theorem d_M_caution_1 : decode b_M_caution 1 = .ok (.iload_n 2, 1) := by decide +kernel
theorem d_M_caution_2 : decode b_M_caution 2 = .ok (.invokestatic 145, 3) := by decide +kernel
theorem d_M_caution_5 : decode b_M_caution 5 = .ok (.ifCond .ne 10, 3) := by decide +kernel
theorem d_M_caution_8 : decode b_M_caution 8 = .ok (.iload_n 3, 1) := by decide +kernel
theorem d_M_caution_9 : decode b_M_caution 9 = .ok (.invokestatic 136, 3) := by decide +kernel
theorem d_M_caution_12 : decode b_M_caution 12 = .ok (.ifCond .eq 7, 3) := by decide +kernel
theorem d_M_caution_15 : decode b_M_caution 15 = .ok (.iconst 1, 1) := by decide +kernel
theorem d_M_caution_16 : decode b_M_caution 16 = .ok (.goto 4, 3) := by decide +kernel
theorem d_M_caution_19 : decode b_M_caution 19 = .ok (.iconst 0, 1) := by decide +kernel
theorem d_M_caution_20 : decode b_M_caution 20 = .ok (.iload_n 1, 1) := by decide +kernel
theorem d_M_caution_21 : decode b_M_caution 21 = .ok (.iconst 5, 1) := by decide +kernel
theorem d_M_caution_22 : decode b_M_caution 22 = .ok (.iload_n 2, 1) := by decide +kernel
theorem d_M_caution_23 : decode b_M_caution 23 = .ok (.iload_n 3, 1) := by decide +kernel
theorem d_M_caution_24 : decode b_M_caution 24 = .ok (.iconst 0, 1) := by decide +kernel
theorem d_M_caution_25 : decode b_M_caution 25 = .ok (.iconst 0, 1) := by decide +kernel
theorem d_M_caution_26 : decode b_M_caution 26 = .ok (.invokevirtual 139, 3) := by decide +kernel
theorem d_M_caution_29 : decode b_M_caution 29 = .ok (.ireturn, 1) := by decide +kernel
theorem d_M_lift_0 : decode b_M_lift 0 = .ok (.aload_n 0, 1) := by decide +kernel
theorem d_M_lift_1 : decode b_M_lift 1 = .ok (.iload_n 2, 1) := by decide +kernel
theorem d_M_lift_2 : decode b_M_lift 2 = .ok (.invokestatic 145, 3) := by decide +kernel
theorem d_M_lift_5 : decode b_M_lift 5 = .ok (.ifCond .ne 10, 3) := by decide +kernel
theorem d_M_lift_8 : decode b_M_lift 8 = .ok (.iload_n 3, 1) := by decide +kernel
theorem d_M_lift_9 : decode b_M_lift 9 = .ok (.invokestatic 136, 3) := by decide +kernel
theorem d_M_lift_12 : decode b_M_lift 12 = .ok (.ifCond .eq 7, 3) := by decide +kernel
theorem d_M_lift_15 : decode b_M_lift 15 = .ok (.iconst 1, 1) := by decide +kernel
theorem d_M_lift_16 : decode b_M_lift 16 = .ok (.goto 4, 3) := by decide +kernel
theorem d_M_lift_19 : decode b_M_lift 19 = .ok (.iconst 0, 1) := by decide +kernel
theorem d_M_lift_20 : decode b_M_lift 20 = .ok (.iload_n 1, 1) := by decide +kernel
theorem d_M_lift_21 : decode b_M_lift 21 = .ok (.bipush 6, 2) := by decide +kernel
theorem d_M_lift_23 : decode b_M_lift 23 = .ok (.iload_n 2, 1) := by decide +kernel
theorem d_M_lift_24 : decode b_M_lift 24 = .ok (.iload_n 3, 1) := by decide +kernel
theorem d_M_lift_25 : decode b_M_lift 25 = .ok (.iconst 0, 1) := by decide +kernel
theorem d_M_lift_26 : decode b_M_lift 26 = .ok (.iconst 0, 1) := by decide +kernel
theorem d_M_lift_27 : decode b_M_lift 27 = .ok (.invokevirtual 139, 3) := by decide +kernel
theorem d_M_lift_30 : decode b_M_lift 30 = .ok (.ireturn, 1) := by decide +kernel
theorem d_M_split_0 : decode b_M_split 0 = .ok (.aload_n 0, 1) := by decide +kernel
theorem d_M_split_1 : decode b_M_split 1 = .ok (.iload_n 2, 1) := by decide +kernel
theorem d_M_split_2 : decode b_M_split 2 = .ok (.invokestatic 145, 3) := by decide +kernel
theorem d_M_split_5 : decode b_M_split 5 = .ok (.ifCond .ne 10, 3) := by decide +kernel
theorem d_M_split_8 : decode b_M_split 8 = .ok (.iload_n 3, 1) := by decide +kernel
theorem d_M_split_9 : decode b_M_split 9 = .ok (.invokestatic 133, 3) := by decide +kernel
theorem d_M_split_12 : decode b_M_split 12 = .ok (.ifCond .eq 7, 3) := by decide +kernel
theorem d_M_split_15 : decode b_M_split 15 = .ok (.iconst 1, 1) := by decide +kernel
theorem d_M_split_16 : decode b_M_split 16 = .ok (.goto 4, 3) := by decide +kernel
theorem d_M_split_19 : decode b_M_split 19 = .ok (.iconst 0, 1) := by decide +kernel
theorem d_M_split_20 : decode b_M_split 20 = .ok (.iload_n 1, 1) := by decide +kernel
theorem d_M_split_21 : decode b_M_split 21 = .ok (.bipush 7, 2) := by decide +kernel
theorem d_M_split_23 : decode b_M_split 23 = .ok (.iload_n 2, 1) := by decide +kernel
theorem d_M_split_24 : decode b_M_split 24 = .ok (.iload_n 3, 1) := by decide +kernel
theorem d_M_split_25 : decode b_M_split 25 = .ok (.iconst 0, 1) := by decide +kernel
theorem d_M_split_26 : decode b_M_split 26 = .ok (.iconst 0, 1) := by decide +kernel
theorem d_M_split_27 : decode b_M_split 27 = .ok (.invokevirtual 139, 3) := by decide +kernel
theorem d_M_split_30 : decode b_M_split 30 = .ok (.ireturn, 1) := by decide +kernel
theorem d_M_merge_0 : decode b_M_merge 0 = .ok (.aload_n 0, 1) := by decide +kernel
theorem d_M_merge_1 : decode b_M_merge 1 = .ok (.iload_n 2, 1) := by decide +kernel
theorem d_M_merge_2 : decode b_M_merge 2 = .ok (.invokestatic 145, 3) := by decide +kernel
theorem d_M_merge_5 : decode b_M_merge 5 = .ok (.ifCond .ne 15, 3) := by decide +kernel
theorem d_M_merge_8 : decode b_M_merge 8 = .ok (.iload_n 3, 1) := by decide +kernel
theorem d_M_merge_9 : decode b_M_merge 9 = .ok (.invokestatic 145, 3) := by decide +kernel
theorem d_M_merge_12 : decode b_M_merge 12 = .ok (.ifCond .ne 8, 3) := by decide +kernel
theorem d_M_merge_15 : decode b_M_merge 15 = .ok (.iload_n 2, 1) := by decide +kernel
theorem d_M_merge_16 : decode b_M_merge 16 = .ok (.iload_n 3, 1) := by decide +kernel
theorem d_M_merge_17 : decode b_M_merge 17 = .ok (.if_icmp .ne 7, 3) := by decide +kernel
theorem d_M_merge_20 : decode b_M_merge 20 = .ok (.iconst 1, 1) := by decide +kernel
theorem d_M_merge_21 : decode b_M_merge 21 = .ok (.goto 4, 3) := by decide +kernel
theorem d_M_merge_24 : decode b_M_merge 24 = .ok (.iconst 0, 1) := by decide +kernel
theorem d_M_merge_25 : decode b_M_merge 25 = .ok (.iload_n 1, 1) := by decide +kernel
theorem d_M_merge_26 : decode b_M_merge 26 = .ok (.bipush 8, 2) := by decide +kernel
theorem d_M_merge_28 : decode b_M_merge 28 = .ok (.iload_n 2, 1) := by decide +kernel
theorem d_M_merge_29 : decode b_M_merge 29 = .ok (.iload_n 3, 1) := by decide +kernel
theorem d_M_merge_30 : decode b_M_merge 30 = .ok (.iconst 0, 1) := by decide +kernel
theorem d_M_merge_31 : decode b_M_merge 31 = .ok (.iconst 0, 1) := by decide +kernel
theorem d_M_merge_32 : decode b_M_merge 32 = .ok (.invokevirtual 139, 3) := by decide +kernel
theorem d_M_merge_35 : decode b_M_merge 35 = .ok (.ireturn, 1) := by decide +kernel
theorem d_M_day_0 : decode b_M_day 0 = .ok (.aload_n 0, 1) := by decide +kernel
theorem d_M_day_1 : decode b_M_day 1 = .ok (.aload_n 0, 1) := by decide +kernel
theorem d_M_day_2 : decode b_M_day 2 = .ok (.getfield 130, 3) := by decide +kernel
theorem d_M_day_5 : decode b_M_day 5 = .ok (.bipush 60, 2) := by decide +kernel
theorem d_M_day_7 : decode b_M_day 7 = .ok (.if_icmp .ne 7, 3) := by decide +kernel
theorem d_M_day_10 : decode b_M_day 10 = .ok (.iconst 1, 1) := by decide +kernel
theorem d_M_day_11 : decode b_M_day 11 = .ok (.goto 4, 3) := by decide +kernel
theorem d_M_day_14 : decode b_M_day 14 = .ok (.iconst 0, 1) := by decide +kernel
theorem d_M_day_15 : decode b_M_day 15 = .ok (.putfield 70, 3) := by decide +kernel
theorem d_M_day_18 : decode b_M_day 18 = .ok (.aload_n 0, 1) := by decide +kernel
theorem d_M_day_19 : decode b_M_day 19 = .ok (.getfield 70, 3) := by decide +kernel
theorem d_M_day_22 : decode b_M_day 22 = .ok (.ifCond .le 5, 3) := by decide +kernel
theorem d_M_day_25 : decode b_M_day 25 = .ok (.iconst 0, 1) := by decide +kernel
theorem d_M_day_26 : decode b_M_day 26 = .ok (.ireturn, 1) := by decide +kernel
theorem d_M_day_27 : decode b_M_day 27 = .ok (.aload_n 0, 1) := by decide +kernel
theorem d_M_day_28 : decode b_M_day 28 = .ok (.dup, 1) := by decide +kernel
theorem d_M_day_29 : decode b_M_day 29 = .ok (.getfield 130, 3) := by decide +kernel
theorem d_M_day_32 : decode b_M_day 32 = .ok (.iconst 1, 1) := by decide +kernel
theorem d_M_day_33 : decode b_M_day 33 = .ok (.iadd, 1) := by decide +kernel
theorem d_M_day_34 : decode b_M_day 34 = .ok (.putfield 130, 3) := by decide +kernel
theorem d_M_day_37 : decode b_M_day 37 = .ok (.aload_n 0, 1) := by decide +kernel
theorem d_M_day_38 : decode b_M_day 38 = .ok (.aload_n 0, 1) := by decide +kernel
theorem d_M_day_39 : decode b_M_day 39 = .ok (.getfield 130, 3) := by decide +kernel
theorem d_M_day_42 : decode b_M_day 42 = .ok (.aload_n 0, 1) := by decide +kernel
theorem d_M_day_43 : decode b_M_day 43 = .ok (.getfield 130, 3) := by decide +kernel
theorem d_M_day_46 : decode b_M_day 46 = .ok (.invokevirtual 66, 3) := by decide +kernel
theorem d_M_day_49 : decode b_M_day 49 = .ok (.aload_n 0, 1) := by decide +kernel
theorem d_M_day_50 : decode b_M_day 50 = .ok (.getfield 130, 3) := by decide +kernel
theorem d_M_day_53 : decode b_M_day 53 = .ok (.ireturn, 1) := by decide +kernel
theorem d_M_view_0 : decode b_M_view 0 = .ok (.aload_n 0, 1) := by decide +kernel
theorem d_M_view_1 : decode b_M_view 1 = .ok (.iload_n 1, 1) := by decide +kernel
theorem d_M_view_2 : decode b_M_view 2 = .ok (.ifCond .lt 21, 3) := by decide +kernel
theorem d_M_view_5 : decode b_M_view 5 = .ok (.iload_n 1, 1) := by decide +kernel
theorem d_M_view_6 : decode b_M_view 6 = .ok (.aload_n 0, 1) := by decide +kernel
theorem d_M_view_7 : decode b_M_view 7 = .ok (.getfield 130, 3) := by decide +kernel
theorem d_M_view_10 : decode b_M_view 10 = .ok (.if_icmp .gt 13, 3) := by decide +kernel
theorem d_M_view_13 : decode b_M_view 13 = .ok (.iload_n 2, 1) := by decide +kernel
theorem d_M_view_14 : decode b_M_view 14 = .ok (.ifCond .lt 9, 3) := by decide +kernel
theorem d_M_view_17 : decode b_M_view 17 = .ok (.iload_n 2, 1) := by decide +kernel
theorem d_M_view_18 : decode b_M_view 18 = .ok (.bipush 60, 2) := by decide +kernel
theorem d_M_view_20 : decode b_M_view 20 = .ok (.if_icmp .le 7, 3) := by decide +kernel
theorem d_M_view_23 : decode b_M_view 23 = .ok (.iconst 1, 1) := by decide +kernel
theorem d_M_view_24 : decode b_M_view 24 = .ok (.goto 4, 3) := by decide +kernel
theorem d_M_view_27 : decode b_M_view 27 = .ok (.iconst 0, 1) := by decide +kernel
theorem d_M_view_28 : decode b_M_view 28 = .ok (.putfield 70, 3) := by decide +kernel
theorem d_M_view_31 : decode b_M_view 31 = .ok (.aload_n 0, 1) := by decide +kernel
theorem d_M_view_32 : decode b_M_view 32 = .ok (.getfield 70, 3) := by decide +kernel
theorem d_M_view_35 : decode b_M_view 35 = .ok (.ifCond .le 5, 3) := by decide +kernel
theorem d_M_view_38 : decode b_M_view 38 = .ok (.iconst 0, 1) := by decide +kernel
theorem d_M_view_39 : decode b_M_view 39 = .ok (.ireturn, 1) := by decide +kernel
theorem d_M_view_40 : decode b_M_view 40 = .ok (.aload_n 0, 1) := by decide +kernel
theorem d_M_view_41 : decode b_M_view 41 = .ok (.iload_n 1, 1) := by decide +kernel
theorem d_M_view_42 : decode b_M_view 42 = .ok (.iload_n 2, 1) := by decide +kernel
theorem d_M_view_43 : decode b_M_view 43 = .ok (.invokevirtual 66, 3) := by decide +kernel
theorem d_M_view_46 : decode b_M_view 46 = .ok (.iconst 0, 1) := by decide +kernel
theorem d_M_view_47 : decode b_M_view 47 = .ok (.istore_n 3, 1) := by decide +kernel
theorem d_M_view_48 : decode b_M_view 48 = .ok (.iconst 0, 1) := by decide +kernel
theorem d_M_view_49 : decode b_M_view 49 = .ok (.istore 4, 2) := by decide +kernel
theorem d_M_view_51 : decode b_M_view 51 = .ok (.iload 4, 2) := by decide +kernel
theorem d_M_view_53 : decode b_M_view 53 = .ok (.bipush 80, 2) := by decide +kernel
theorem d_M_view_55 : decode b_M_view 55 = .ok (.if_icmp .ge 27, 3) := by decide +kernel
theorem d_M_view_58 : decode b_M_view 58 = .ok (.aload_n 0, 1) := by decide +kernel
theorem d_M_view_59 : decode b_M_view 59 = .ok (.getfield 34, 3) := by decide +kernel
theorem d_M_view_62 : decode b_M_view 62 = .ok (.iload 4, 2) := by decide +kernel
theorem d_M_view_64 : decode b_M_view 64 = .ok (.baload, 1) := by decide +kernel
theorem d_M_view_65 : decode b_M_view 65 = .ok (.ifCond .eq 9, 3) := by decide +kernel
theorem d_M_view_68 : decode b_M_view 68 = .ok (.iload_n 3, 1) := by decide +kernel
theorem d_M_view_69 : decode b_M_view 69 = .ok (.iconst 1, 1) := by decide +kernel
theorem d_M_view_70 : decode b_M_view 70 = .ok (.iadd, 1) := by decide +kernel
theorem d_M_view_71 : decode b_M_view 71 = .ok (.goto 4, 3) := by decide +kernel
theorem d_M_view_74 : decode b_M_view 74 = .ok (.iload_n 3, 1) := by decide +kernel
theorem d_M_view_75 : decode b_M_view 75 = .ok (.istore_n 3, 1) := by decide +kernel
theorem d_M_view_76 : decode b_M_view 76 = .ok (.iinc 4 1, 3) := by decide +kernel
theorem d_M_view_79 : decode b_M_view 79 = .ok (.goto (-28), 3) := by decide +kernel
theorem d_M_view_82 : decode b_M_view 82 = .ok (.iload_n 3, 1) := by decide +kernel
theorem d_M_view_83 : decode b_M_view 83 = .ok (.ireturn, 1) := by decide +kernel
theorem d_M_parcel_0 : decode b_M_parcel 0 = .ok (.aload_n 0, 1) := by decide +kernel
theorem d_M_parcel_1 : decode b_M_parcel 1 = .ok (.iconst 0, 1) := by decide +kernel
theorem d_M_parcel_2 : decode b_M_parcel 2 = .ok (.putfield 70, 3) := by decide +kernel
theorem d_M_parcel_5 : decode b_M_parcel 5 = .ok (.iload_n 1, 1) := by decide +kernel
theorem d_M_parcel_6 : decode b_M_parcel 6 = .ok (.istore_n 2, 1) := by decide +kernel
theorem d_M_parcel_7 : decode b_M_parcel 7 = .ok (.iconst 0, 1) := by decide +kernel
theorem d_M_parcel_8 : decode b_M_parcel 8 = .ok (.istore_n 3, 1) := by decide +kernel
theorem d_M_parcel_9 : decode b_M_parcel 9 = .ok (.iload_n 3, 1) := by decide +kernel
theorem d_M_parcel_10 : decode b_M_parcel 10 = .ok (.bipush 80, 2) := by decide +kernel
theorem d_M_parcel_12 : decode b_M_parcel 12 = .ok (.if_icmp .ge 27, 3) := by decide +kernel
theorem d_M_parcel_15 : decode b_M_parcel 15 = .ok (.aload_n 0, 1) := by decide +kernel
theorem d_M_parcel_16 : decode b_M_parcel 16 = .ok (.getfield 34, 3) := by decide +kernel
theorem d_M_parcel_19 : decode b_M_parcel 19 = .ok (.iload_n 3, 1) := by decide +kernel
theorem d_M_parcel_20 : decode b_M_parcel 20 = .ok (.baload, 1) := by decide +kernel
theorem d_M_parcel_21 : decode b_M_parcel 21 = .ok (.ifCond .eq 12, 3) := by decide +kernel
theorem d_M_parcel_24 : decode b_M_parcel 24 = .ok (.iload_n 2, 1) := by decide +kernel
theorem d_M_parcel_25 : decode b_M_parcel 25 = .ok (.ifCond .ne 5, 3) := by decide +kernel
theorem d_M_parcel_28 : decode b_M_parcel 28 = .ok (.iload_n 3, 1) := by decide +kernel
theorem d_M_parcel_29 : decode b_M_parcel 29 = .ok (.ireturn, 1) := by decide +kernel
theorem d_M_parcel_30 : decode b_M_parcel 30 = .ok (.iinc 2 (-1), 3) := by decide +kernel
theorem d_M_parcel_33 : decode b_M_parcel 33 = .ok (.iinc 3 1, 3) := by decide +kernel
theorem d_M_parcel_36 : decode b_M_parcel 36 = .ok (.goto (-27), 3) := by decide +kernel
theorem d_M_parcel_39 : decode b_M_parcel 39 = .ok (.iconst (-1), 1) := by decide +kernel
theorem d_M_parcel_40 : decode b_M_parcel 40 = .ok (.ireturn, 1) := by decide +kernel
theorem d_M_area_0 : decode b_M_area 0 = .ok (.aload_n 0, 1) := by decide +kernel
theorem d_M_area_1 : decode b_M_area 1 = .ok (.iload_n 1, 1) := by decide +kernel
theorem d_M_area_2 : decode b_M_area 2 = .ok (.invokestatic 145, 3) := by decide +kernel
theorem d_M_area_5 : decode b_M_area 5 = .ok (.ifCond .eq 7, 3) := by decide +kernel
theorem d_M_area_8 : decode b_M_area 8 = .ok (.iconst 1, 1) := by decide +kernel
theorem d_M_area_9 : decode b_M_area 9 = .ok (.goto 4, 3) := by decide +kernel
theorem d_M_area_12 : decode b_M_area 12 = .ok (.iconst 0, 1) := by decide +kernel
theorem d_M_area_13 : decode b_M_area 13 = .ok (.putfield 70, 3) := by decide +kernel
theorem d_M_area_16 : decode b_M_area 16 = .ok (.aload_n 0, 1) := by decide +kernel
theorem d_M_area_17 : decode b_M_area 17 = .ok (.getfield 70, 3) := by decide +kernel
theorem d_M_area_20 : decode b_M_area 20 = .ok (.ifCond .gt 12, 3) := by decide +kernel
theorem d_M_area_23 : decode b_M_area 23 = .ok (.aload_n 0, 1) := by decide +kernel
theorem d_M_area_24 : decode b_M_area 24 = .ok (.getfield 34, 3) := by decide +kernel
theorem d_M_area_27 : decode b_M_area 27 = .ok (.iload_n 1, 1) := by decide +kernel
theorem d_M_area_28 : decode b_M_area 28 = .ok (.baload, 1) := by decide +kernel
theorem d_M_area_29 : decode b_M_area 29 = .ok (.ifCond .ne 7, 3) := by decide +kernel
theorem d_M_area_32 : decode b_M_area 32 = .ok (.lconst 0, 1) := by decide +kernel
theorem d_M_area_33 : decode b_M_area 33 = .ok (.goto 9, 3) := by decide +kernel
theorem d_M_area_36 : decode b_M_area 36 = .ok (.aload_n 0, 1) := by decide +kernel
theorem d_M_area_37 : decode b_M_area 37 = .ok (.getfield 38, 3) := by decide +kernel
theorem d_M_area_40 : decode b_M_area 40 = .ok (.iload_n 1, 1) := by decide +kernel
theorem d_M_area_41 : decode b_M_area 41 = .ok (.laload, 1) := by decide +kernel
theorem d_M_area_42 : decode b_M_area 42 = .ok (.lreturn, 1) := by decide +kernel
theorem d_M_share_0 : decode b_M_share 0 = .ok (.aload_n 0, 1) := by decide +kernel
theorem d_M_share_1 : decode b_M_share 1 = .ok (.iload_n 1, 1) := by decide +kernel
theorem d_M_share_2 : decode b_M_share 2 = .ok (.invokestatic 145, 3) := by decide +kernel
theorem d_M_share_5 : decode b_M_share 5 = .ok (.ifCond .ne 10, 3) := by decide +kernel
theorem d_M_share_8 : decode b_M_share 8 = .ok (.iload_n 2, 1) := by decide +kernel
theorem d_M_share_9 : decode b_M_share 9 = .ok (.invokestatic 136, 3) := by decide +kernel
theorem d_M_share_12 : decode b_M_share 12 = .ok (.ifCond .eq 7, 3) := by decide +kernel
theorem d_M_share_15 : decode b_M_share 15 = .ok (.iconst 1, 1) := by decide +kernel
theorem d_M_share_16 : decode b_M_share 16 = .ok (.goto 4, 3) := by decide +kernel
theorem d_M_share_19 : decode b_M_share 19 = .ok (.iconst 0, 1) := by decide +kernel
theorem d_M_share_20 : decode b_M_share 20 = .ok (.putfield 70, 3) := by decide +kernel
theorem d_M_share_23 : decode b_M_share 23 = .ok (.aload_n 0, 1) := by decide +kernel
theorem d_M_share_24 : decode b_M_share 24 = .ok (.getfield 70, 3) := by decide +kernel
theorem d_M_share_27 : decode b_M_share 27 = .ok (.ifCond .gt 28, 3) := by decide +kernel
theorem d_M_share_30 : decode b_M_share 30 = .ok (.aload_n 0, 1) := by decide +kernel
theorem d_M_share_31 : decode b_M_share 31 = .ok (.getfield 34, 3) := by decide +kernel
theorem d_M_share_34 : decode b_M_share 34 = .ok (.iload_n 1, 1) := by decide +kernel
theorem d_M_share_35 : decode b_M_share 35 = .ok (.baload, 1) := by decide +kernel
theorem d_M_share_36 : decode b_M_share 36 = .ok (.ifCond .eq 19, 3) := by decide +kernel
theorem d_M_share_39 : decode b_M_share 39 = .ok (.aload_n 0, 1) := by decide +kernel
theorem d_M_share_40 : decode b_M_share 40 = .ok (.getfield 42, 3) := by decide +kernel
theorem d_M_share_43 : decode b_M_share 43 = .ok (.bipush 8, 2) := by decide +kernel
theorem d_M_share_45 : decode b_M_share 45 = .ok (.iload_n 1, 1) := by decide +kernel
theorem d_M_share_46 : decode b_M_share 46 = .ok (.imul, 1) := by decide +kernel
theorem d_M_share_47 : decode b_M_share 47 = .ok (.iload_n 2, 1) := by decide +kernel
theorem d_M_share_48 : decode b_M_share 48 = .ok (.iadd, 1) := by decide +kernel
theorem d_M_share_49 : decode b_M_share 49 = .ok (.laload, 1) := by decide +kernel
theorem d_M_share_50 : decode b_M_share 50 = .ok (.lconst 0, 1) := by decide +kernel
theorem d_M_share_51 : decode b_M_share 51 = .ok (.lcmp, 1) := by decide +kernel
theorem d_M_share_52 : decode b_M_share 52 = .ok (.ifCond .ne 5, 3) := by decide +kernel
theorem d_M_share_55 : decode b_M_share 55 = .ok (.lconst 0, 1) := by decide +kernel
theorem d_M_share_56 : decode b_M_share 56 = .ok (.lreturn, 1) := by decide +kernel
theorem d_M_share_57 : decode b_M_share 57 = .ok (.aload_n 0, 1) := by decide +kernel
theorem d_M_share_58 : decode b_M_share 58 = .ok (.getfield 42, 3) := by decide +kernel
theorem d_M_share_61 : decode b_M_share 61 = .ok (.bipush 8, 2) := by decide +kernel
theorem d_M_share_63 : decode b_M_share 63 = .ok (.iload_n 1, 1) := by decide +kernel
theorem d_M_share_64 : decode b_M_share 64 = .ok (.imul, 1) := by decide +kernel
theorem d_M_share_65 : decode b_M_share 65 = .ok (.iload_n 2, 1) := by decide +kernel
theorem d_M_share_66 : decode b_M_share 66 = .ok (.iadd, 1) := by decide +kernel
theorem d_M_share_67 : decode b_M_share 67 = .ok (.laload, 1) := by decide +kernel
theorem d_M_share_68 : decode b_M_share 68 = .ok (.bipush 32, 2) := by decide +kernel
theorem d_M_share_70 : decode b_M_share 70 = .ok (.lshl, 1) := by decide +kernel
theorem d_M_share_71 : decode b_M_share 71 = .ok (.aload_n 0, 1) := by decide +kernel
theorem d_M_share_72 : decode b_M_share 72 = .ok (.getfield 45, 3) := by decide +kernel
theorem d_M_share_75 : decode b_M_share 75 = .ok (.bipush 8, 2) := by decide +kernel
theorem d_M_share_77 : decode b_M_share 77 = .ok (.iload_n 1, 1) := by decide +kernel
theorem d_M_share_78 : decode b_M_share 78 = .ok (.imul, 1) := by decide +kernel
theorem d_M_share_79 : decode b_M_share 79 = .ok (.iload_n 2, 1) := by decide +kernel
theorem d_M_share_80 : decode b_M_share 80 = .ok (.iadd, 1) := by decide +kernel
theorem d_M_share_81 : decode b_M_share 81 = .ok (.laload, 1) := by decide +kernel
theorem d_M_share_82 : decode b_M_share 82 = .ok (.lor, 1) := by decide +kernel
theorem d_M_share_83 : decode b_M_share 83 = .ok (.lreturn, 1) := by decide +kernel
theorem d_M_mortgage_0 : decode b_M_mortgage 0 = .ok (.aload_n 0, 1) := by decide +kernel
theorem d_M_mortgage_1 : decode b_M_mortgage 1 = .ok (.iload_n 1, 1) := by decide +kernel
theorem d_M_mortgage_2 : decode b_M_mortgage 2 = .ok (.invokestatic 145, 3) := by decide +kernel
theorem d_M_mortgage_5 : decode b_M_mortgage 5 = .ok (.ifCond .eq 7, 3) := by decide +kernel
theorem d_M_mortgage_8 : decode b_M_mortgage 8 = .ok (.iconst 1, 1) := by decide +kernel
theorem d_M_mortgage_9 : decode b_M_mortgage 9 = .ok (.goto 4, 3) := by decide +kernel
theorem d_M_mortgage_12 : decode b_M_mortgage 12 = .ok (.iconst 0, 1) := by decide +kernel
theorem d_M_mortgage_13 : decode b_M_mortgage 13 = .ok (.putfield 70, 3) := by decide +kernel
theorem d_M_mortgage_16 : decode b_M_mortgage 16 = .ok (.aload_n 0, 1) := by decide +kernel
theorem d_M_mortgage_17 : decode b_M_mortgage 17 = .ok (.getfield 70, 3) := by decide +kernel
theorem d_M_mortgage_20 : decode b_M_mortgage 20 = .ok (.ifCond .le 5, 3) := by decide +kernel
theorem d_M_mortgage_23 : decode b_M_mortgage 23 = .ok (.iconst 0, 1) := by decide +kernel
theorem d_M_mortgage_24 : decode b_M_mortgage 24 = .ok (.ireturn, 1) := by decide +kernel
theorem d_M_mortgage_25 : decode b_M_mortgage 25 = .ok (.aload_n 0, 1) := by decide +kernel
theorem d_M_mortgage_26 : decode b_M_mortgage 26 = .ok (.getfield 34, 3) := by decide +kernel
theorem d_M_mortgage_29 : decode b_M_mortgage 29 = .ok (.iload_n 1, 1) := by decide +kernel
theorem d_M_mortgage_30 : decode b_M_mortgage 30 = .ok (.baload, 1) := by decide +kernel
theorem d_M_mortgage_31 : decode b_M_mortgage 31 = .ok (.ifCond .eq 18, 3) := by decide +kernel
theorem d_M_mortgage_34 : decode b_M_mortgage 34 = .ok (.iload_n 2, 1) := by decide +kernel
theorem d_M_mortgage_35 : decode b_M_mortgage 35 = .ok (.iconst 1, 1) := by decide +kernel
theorem d_M_mortgage_36 : decode b_M_mortgage 36 = .ok (.if_icmp .lt 13, 3) := by decide +kernel
theorem d_M_mortgage_39 : decode b_M_mortgage 39 = .ok (.iload_n 2, 1) := by decide +kernel
theorem d_M_mortgage_40 : decode b_M_mortgage 40 = .ok (.aload_n 0, 1) := by decide +kernel
theorem d_M_mortgage_41 : decode b_M_mortgage 41 = .ok (.getfield 48, 3) := by decide +kernel
theorem d_M_mortgage_44 : decode b_M_mortgage 44 = .ok (.iload_n 1, 1) := by decide +kernel
theorem d_M_mortgage_45 : decode b_M_mortgage 45 = .ok (.iaload, 1) := by decide +kernel
theorem d_M_mortgage_46 : decode b_M_mortgage 46 = .ok (.if_icmp .le 5, 3) := by decide +kernel
theorem d_M_mortgage_49 : decode b_M_mortgage 49 = .ok (.iconst (-1), 1) := by decide +kernel
theorem d_M_mortgage_50 : decode b_M_mortgage 50 = .ok (.ireturn, 1) := by decide +kernel
theorem d_M_mortgage_51 : decode b_M_mortgage 51 = .ok (.iconst 4, 1) := by decide +kernel
theorem d_M_mortgage_52 : decode b_M_mortgage 52 = .ok (.iload_n 1, 1) := by decide +kernel
theorem d_M_mortgage_53 : decode b_M_mortgage 53 = .ok (.imul, 1) := by decide +kernel
theorem d_M_mortgage_54 : decode b_M_mortgage 54 = .ok (.iload_n 2, 1) := by decide +kernel
theorem d_M_mortgage_55 : decode b_M_mortgage 55 = .ok (.iadd, 1) := by decide +kernel
theorem d_M_mortgage_56 : decode b_M_mortgage 56 = .ok (.iconst 1, 1) := by decide +kernel
theorem d_M_mortgage_57 : decode b_M_mortgage 57 = .ok (.isub, 1) := by decide +kernel
theorem d_M_mortgage_58 : decode b_M_mortgage 58 = .ok (.istore 4, 2) := by decide +kernel
theorem d_M_mortgage_60 : decode b_M_mortgage 60 = .ok (.iload_n 3, 1) := by decide +kernel
theorem d_M_mortgage_61 : decode b_M_mortgage 61 = .ok (.ifCond .ne 13, 3) := by decide +kernel
theorem d_M_mortgage_64 : decode b_M_mortgage 64 = .ok (.aload_n 0, 1) := by decide +kernel
theorem d_M_mortgage_65 : decode b_M_mortgage 65 = .ok (.getfield 51, 3) := by decide +kernel
theorem d_M_mortgage_68 : decode b_M_mortgage 68 = .ok (.iload 4, 2) := by decide +kernel
theorem d_M_mortgage_70 : decode b_M_mortgage 70 = .ok (.iaload, 1) := by decide +kernel
theorem d_M_mortgage_71 : decode b_M_mortgage 71 = .ok (.goto 19, 3) := by decide +kernel
theorem d_M_mortgage_74 : decode b_M_mortgage 74 = .ok (.iload_n 3, 1) := by decide +kernel
theorem d_M_mortgage_75 : decode b_M_mortgage 75 = .ok (.iconst 1, 1) := by decide +kernel
theorem d_M_mortgage_76 : decode b_M_mortgage 76 = .ok (.if_icmp .ne 13, 3) := by decide +kernel
theorem d_M_mortgage_79 : decode b_M_mortgage 79 = .ok (.aload_n 0, 1) := by decide +kernel
theorem d_M_mortgage_80 : decode b_M_mortgage 80 = .ok (.getfield 54, 3) := by decide +kernel
theorem d_M_mortgage_83 : decode b_M_mortgage 83 = .ok (.iload 4, 2) := by decide +kernel
theorem d_M_mortgage_85 : decode b_M_mortgage 85 = .ok (.iaload, 1) := by decide +kernel
theorem d_M_mortgage_86 : decode b_M_mortgage 86 = .ok (.goto 4, 3) := by decide +kernel
theorem d_M_mortgage_89 : decode b_M_mortgage 89 = .ok (.iconst (-1), 1) := by decide +kernel
theorem d_M_mortgage_90 : decode b_M_mortgage 90 = .ok (.ireturn, 1) := by decide +kernel
theorem d_M_cautions_0 : decode b_M_cautions 0 = .ok (.aload_n 0, 1) := by decide +kernel
theorem d_M_cautions_1 : decode b_M_cautions 1 = .ok (.iload_n 1, 1) := by decide +kernel
theorem d_M_cautions_2 : decode b_M_cautions 2 = .ok (.invokestatic 145, 3) := by decide +kernel
theorem d_M_cautions_5 : decode b_M_cautions 5 = .ok (.ifCond .eq 7, 3) := by decide +kernel
theorem d_M_cautions_8 : decode b_M_cautions 8 = .ok (.iconst 1, 1) := by decide +kernel
theorem d_M_cautions_9 : decode b_M_cautions 9 = .ok (.goto 4, 3) := by decide +kernel
theorem d_M_cautions_12 : decode b_M_cautions 12 = .ok (.iconst 0, 1) := by decide +kernel
theorem d_M_cautions_13 : decode b_M_cautions 13 = .ok (.putfield 70, 3) := by decide +kernel
theorem d_M_cautions_16 : decode b_M_cautions 16 = .ok (.aload_n 0, 1) := by decide +kernel
theorem d_M_cautions_17 : decode b_M_cautions 17 = .ok (.getfield 70, 3) := by decide +kernel
theorem d_M_cautions_20 : decode b_M_cautions 20 = .ok (.ifCond .gt 12, 3) := by decide +kernel
theorem d_M_cautions_23 : decode b_M_cautions 23 = .ok (.aload_n 0, 1) := by decide +kernel
theorem d_M_cautions_24 : decode b_M_cautions 24 = .ok (.getfield 34, 3) := by decide +kernel
theorem d_M_cautions_27 : decode b_M_cautions 27 = .ok (.iload_n 1, 1) := by decide +kernel
theorem d_M_cautions_28 : decode b_M_cautions 28 = .ok (.baload, 1) := by decide +kernel
theorem d_M_cautions_29 : decode b_M_cautions 29 = .ok (.ifCond .ne 7, 3) := by decide +kernel
theorem d_M_cautions_32 : decode b_M_cautions 32 = .ok (.iconst 0, 1) := by decide +kernel
theorem d_M_cautions_33 : decode b_M_cautions 33 = .ok (.goto 9, 3) := by decide +kernel
theorem d_M_cautions_36 : decode b_M_cautions 36 = .ok (.aload_n 0, 1) := by decide +kernel
theorem d_M_cautions_37 : decode b_M_cautions 37 = .ok (.getfield 57, 3) := by decide +kernel
theorem d_M_cautions_40 : decode b_M_cautions 40 = .ok (.iload_n 1, 1) := by decide +kernel
theorem d_M_cautions_41 : decode b_M_cautions 41 = .ok (.iaload, 1) := by decide +kernel
theorem d_M_cautions_42 : decode b_M_cautions 42 = .ok (.ireturn, 1) := by decide +kernel
theorem d_M_origin_0 : decode b_M_origin 0 = .ok (.aload_n 0, 1) := by decide +kernel
theorem d_M_origin_1 : decode b_M_origin 1 = .ok (.iload_n 1, 1) := by decide +kernel
theorem d_M_origin_2 : decode b_M_origin 2 = .ok (.invokestatic 145, 3) := by decide +kernel
theorem d_M_origin_5 : decode b_M_origin 5 = .ok (.ifCond .eq 7, 3) := by decide +kernel
theorem d_M_origin_8 : decode b_M_origin 8 = .ok (.iconst 1, 1) := by decide +kernel
theorem d_M_origin_9 : decode b_M_origin 9 = .ok (.goto 4, 3) := by decide +kernel
theorem d_M_origin_12 : decode b_M_origin 12 = .ok (.iconst 0, 1) := by decide +kernel
theorem d_M_origin_13 : decode b_M_origin 13 = .ok (.putfield 70, 3) := by decide +kernel
theorem d_M_origin_16 : decode b_M_origin 16 = .ok (.aload_n 0, 1) := by decide +kernel
theorem d_M_origin_17 : decode b_M_origin 17 = .ok (.getfield 70, 3) := by decide +kernel
theorem d_M_origin_20 : decode b_M_origin 20 = .ok (.ifCond .le 7, 3) := by decide +kernel
theorem d_M_origin_23 : decode b_M_origin 23 = .ok (.iconst 0, 1) := by decide +kernel
theorem d_M_origin_24 : decode b_M_origin 24 = .ok (.goto 31, 3) := by decide +kernel
theorem d_M_origin_27 : decode b_M_origin 27 = .ok (.iload_n 2, 1) := by decide +kernel
theorem d_M_origin_28 : decode b_M_origin 28 = .ok (.ifCond .ne 12, 3) := by decide +kernel
theorem d_M_origin_31 : decode b_M_origin 31 = .ok (.aload_n 0, 1) := by decide +kernel
theorem d_M_origin_32 : decode b_M_origin 32 = .ok (.getfield 60, 3) := by decide +kernel
theorem d_M_origin_35 : decode b_M_origin 35 = .ok (.iload_n 1, 1) := by decide +kernel
theorem d_M_origin_36 : decode b_M_origin 36 = .ok (.iaload, 1) := by decide +kernel
theorem d_M_origin_37 : decode b_M_origin 37 = .ok (.goto 18, 3) := by decide +kernel
theorem d_M_origin_40 : decode b_M_origin 40 = .ok (.iload_n 2, 1) := by decide +kernel
theorem d_M_origin_41 : decode b_M_origin 41 = .ok (.iconst 1, 1) := by decide +kernel
theorem d_M_origin_42 : decode b_M_origin 42 = .ok (.if_icmp .ne 12, 3) := by decide +kernel
theorem d_M_origin_45 : decode b_M_origin 45 = .ok (.aload_n 0, 1) := by decide +kernel
theorem d_M_origin_46 : decode b_M_origin 46 = .ok (.getfield 63, 3) := by decide +kernel
theorem d_M_origin_49 : decode b_M_origin 49 = .ok (.iload_n 1, 1) := by decide +kernel
theorem d_M_origin_50 : decode b_M_origin 50 = .ok (.iaload, 1) := by decide +kernel
theorem d_M_origin_51 : decode b_M_origin 51 = .ok (.goto 4, 3) := by decide +kernel
theorem d_M_origin_54 : decode b_M_origin 54 = .ok (.iconst (-1), 1) := by decide +kernel
theorem d_M_origin_55 : decode b_M_origin 55 = .ok (.ireturn, 1) := by decide +kernel
theorem d_M_holding_0 : decode b_M_holding 0 = .ok (.aload_n 0, 1) := by decide +kernel
theorem d_M_holding_1 : decode b_M_holding 1 = .ok (.iload_n 1, 1) := by decide +kernel
theorem d_M_holding_2 : decode b_M_holding 2 = .ok (.invokestatic 136, 3) := by decide +kernel
theorem d_M_holding_5 : decode b_M_holding 5 = .ok (.ifCond .eq 7, 3) := by decide +kernel
theorem d_M_holding_8 : decode b_M_holding 8 = .ok (.iconst 1, 1) := by decide +kernel
theorem d_M_holding_9 : decode b_M_holding 9 = .ok (.goto 4, 3) := by decide +kernel
theorem d_M_holding_12 : decode b_M_holding 12 = .ok (.iconst 0, 1) := by decide +kernel
theorem d_M_holding_13 : decode b_M_holding 13 = .ok (.putfield 70, 3) := by decide +kernel
theorem d_M_holding_16 : decode b_M_holding 16 = .ok (.aload_n 0, 1) := by decide +kernel
theorem d_M_holding_17 : decode b_M_holding 17 = .ok (.getfield 70, 3) := by decide +kernel
theorem d_M_holding_20 : decode b_M_holding 20 = .ok (.ifCond .le 5, 3) := by decide +kernel
theorem d_M_holding_23 : decode b_M_holding 23 = .ok (.iconst 0, 1) := by decide +kernel
theorem d_M_holding_24 : decode b_M_holding 24 = .ok (.ireturn, 1) := by decide +kernel
theorem d_M_holding_25 : decode b_M_holding 25 = .ok (.iload_n 2, 1) := by decide +kernel
theorem d_M_holding_26 : decode b_M_holding 26 = .ok (.istore_n 3, 1) := by decide +kernel
theorem d_M_holding_27 : decode b_M_holding 27 = .ok (.iconst 0, 1) := by decide +kernel
theorem d_M_holding_28 : decode b_M_holding 28 = .ok (.istore 4, 2) := by decide +kernel
theorem d_M_holding_30 : decode b_M_holding 30 = .ok (.iload 4, 2) := by decide +kernel
theorem d_M_holding_32 : decode b_M_holding 32 = .ok (.bipush 80, 2) := by decide +kernel
theorem d_M_holding_34 : decode b_M_holding 34 = .ok (.if_icmp .ge 46, 3) := by decide +kernel
theorem d_M_holding_37 : decode b_M_holding 37 = .ok (.aload_n 0, 1) := by decide +kernel
theorem d_M_holding_38 : decode b_M_holding 38 = .ok (.getfield 34, 3) := by decide +kernel
theorem d_M_holding_41 : decode b_M_holding 41 = .ok (.iload 4, 2) := by decide +kernel
theorem d_M_holding_43 : decode b_M_holding 43 = .ok (.baload, 1) := by decide +kernel
theorem d_M_holding_44 : decode b_M_holding 44 = .ok (.ifCond .eq 30, 3) := by decide +kernel
theorem d_M_holding_47 : decode b_M_holding 47 = .ok (.aload_n 0, 1) := by decide +kernel
theorem d_M_holding_48 : decode b_M_holding 48 = .ok (.getfield 42, 3) := by decide +kernel
theorem d_M_holding_51 : decode b_M_holding 51 = .ok (.bipush 8, 2) := by decide +kernel
theorem d_M_holding_53 : decode b_M_holding 53 = .ok (.iload 4, 2) := by decide +kernel
theorem d_M_holding_55 : decode b_M_holding 55 = .ok (.imul, 1) := by decide +kernel
theorem d_M_holding_56 : decode b_M_holding 56 = .ok (.iload_n 1, 1) := by decide +kernel
theorem d_M_holding_57 : decode b_M_holding 57 = .ok (.iadd, 1) := by decide +kernel
theorem d_M_holding_58 : decode b_M_holding 58 = .ok (.laload, 1) := by decide +kernel
theorem d_M_holding_59 : decode b_M_holding 59 = .ok (.lconst 0, 1) := by decide +kernel
theorem d_M_holding_60 : decode b_M_holding 60 = .ok (.lcmp, 1) := by decide +kernel
theorem d_M_holding_61 : decode b_M_holding 61 = .ok (.ifCond .le 13, 3) := by decide +kernel
theorem d_M_holding_64 : decode b_M_holding 64 = .ok (.iload_n 3, 1) := by decide +kernel
theorem d_M_holding_65 : decode b_M_holding 65 = .ok (.ifCond .ne 6, 3) := by decide +kernel
theorem d_M_holding_68 : decode b_M_holding 68 = .ok (.iload 4, 2) := by decide +kernel
theorem d_M_holding_70 : decode b_M_holding 70 = .ok (.ireturn, 1) := by decide +kernel
theorem d_M_holding_71 : decode b_M_holding 71 = .ok (.iinc 3 (-1), 3) := by decide +kernel
theorem d_M_holding_74 : decode b_M_holding 74 = .ok (.iinc 4 1, 3) := by decide +kernel
theorem d_M_holding_77 : decode b_M_holding 77 = .ok (.goto (-47), 3) := by decide +kernel
theorem d_M_holding_80 : decode b_M_holding 80 = .ok (.iconst (-1), 1) := by decide +kernel
theorem d_M_holding_81 : decode b_M_holding 81 = .ok (.ireturn, 1) := by decide +kernel
theorem d_M_owed_0 : decode b_M_owed 0 = .ok (.aload_n 0, 1) := by decide +kernel
theorem d_M_owed_1 : decode b_M_owed 1 = .ok (.iload_n 1, 1) := by decide +kernel
theorem d_M_owed_2 : decode b_M_owed 2 = .ok (.invokestatic 136, 3) := by decide +kernel
theorem d_M_owed_5 : decode b_M_owed 5 = .ok (.ifCond .eq 7, 3) := by decide +kernel
theorem d_M_owed_8 : decode b_M_owed 8 = .ok (.iconst 1, 1) := by decide +kernel
theorem d_M_owed_9 : decode b_M_owed 9 = .ok (.goto 4, 3) := by decide +kernel
theorem d_M_owed_12 : decode b_M_owed 12 = .ok (.iconst 0, 1) := by decide +kernel
theorem d_M_owed_13 : decode b_M_owed 13 = .ok (.putfield 70, 3) := by decide +kernel
theorem d_M_owed_16 : decode b_M_owed 16 = .ok (.lconst 0, 1) := by decide +kernel
theorem d_M_owed_17 : decode b_M_owed 17 = .ok (.lstore_n 2, 1) := by decide +kernel
theorem d_M_owed_18 : decode b_M_owed 18 = .ok (.iconst 0, 1) := by decide +kernel
theorem d_M_owed_19 : decode b_M_owed 19 = .ok (.istore 4, 2) := by decide +kernel
theorem d_M_owed_21 : decode b_M_owed 21 = .ok (.iload 4, 2) := by decide +kernel
theorem d_M_owed_23 : decode b_M_owed 23 = .ok (.sipush 320, 3) := by decide +kernel
theorem d_M_owed_26 : decode b_M_owed 26 = .ok (.if_icmp .ge 70, 3) := by decide +kernel
theorem d_M_owed_29 : decode b_M_owed 29 = .ok (.aload_n 0, 1) := by decide +kernel
theorem d_M_owed_30 : decode b_M_owed 30 = .ok (.getfield 70, 3) := by decide +kernel
theorem d_M_owed_33 : decode b_M_owed 33 = .ok (.ifCond .ne 63, 3) := by decide +kernel
theorem d_M_owed_36 : decode b_M_owed 36 = .ok (.aload_n 0, 1) := by decide +kernel
theorem d_M_owed_37 : decode b_M_owed 37 = .ok (.getfield 34, 3) := by decide +kernel
theorem d_M_owed_40 : decode b_M_owed 40 = .ok (.iload 4, 2) := by decide +kernel
theorem d_M_owed_42 : decode b_M_owed 42 = .ok (.iconst 4, 1) := by decide +kernel
theorem d_M_owed_43 : decode b_M_owed 43 = .ok (.idiv, 1) := by decide +kernel
theorem d_M_owed_44 : decode b_M_owed 44 = .ok (.baload, 1) := by decide +kernel
theorem d_M_owed_45 : decode b_M_owed 45 = .ok (.ifCond .eq 43, 3) := by decide +kernel
theorem d_M_owed_48 : decode b_M_owed 48 = .ok (.iload 4, 2) := by decide +kernel
theorem d_M_owed_50 : decode b_M_owed 50 = .ok (.iconst 4, 1) := by decide +kernel
theorem d_M_owed_51 : decode b_M_owed 51 = .ok (.irem, 1) := by decide +kernel
theorem d_M_owed_52 : decode b_M_owed 52 = .ok (.aload_n 0, 1) := by decide +kernel
theorem d_M_owed_53 : decode b_M_owed 53 = .ok (.getfield 48, 3) := by decide +kernel
theorem d_M_owed_56 : decode b_M_owed 56 = .ok (.iload 4, 2) := by decide +kernel
theorem d_M_owed_58 : decode b_M_owed 58 = .ok (.iconst 4, 1) := by decide +kernel
theorem d_M_owed_59 : decode b_M_owed 59 = .ok (.idiv, 1) := by decide +kernel
theorem d_M_owed_60 : decode b_M_owed 60 = .ok (.iaload, 1) := by decide +kernel
theorem d_M_owed_61 : decode b_M_owed 61 = .ok (.if_icmp .ge 27, 3) := by decide +kernel
theorem d_M_owed_64 : decode b_M_owed 64 = .ok (.aload_n 0, 1) := by decide +kernel
theorem d_M_owed_65 : decode b_M_owed 65 = .ok (.getfield 51, 3) := by decide +kernel
theorem d_M_owed_68 : decode b_M_owed 68 = .ok (.iload 4, 2) := by decide +kernel
theorem d_M_owed_70 : decode b_M_owed 70 = .ok (.iaload, 1) := by decide +kernel
theorem d_M_owed_71 : decode b_M_owed 71 = .ok (.iload_n 1, 1) := by decide +kernel
theorem d_M_owed_72 : decode b_M_owed 72 = .ok (.if_icmp .ne 16, 3) := by decide +kernel
theorem d_M_owed_75 : decode b_M_owed 75 = .ok (.lload_n 2, 1) := by decide +kernel
theorem d_M_owed_76 : decode b_M_owed 76 = .ok (.aload_n 0, 1) := by decide +kernel
theorem d_M_owed_77 : decode b_M_owed 77 = .ok (.getfield 54, 3) := by decide +kernel
theorem d_M_owed_80 : decode b_M_owed 80 = .ok (.iload 4, 2) := by decide +kernel
theorem d_M_owed_82 : decode b_M_owed 82 = .ok (.iaload, 1) := by decide +kernel
theorem d_M_owed_83 : decode b_M_owed 83 = .ok (.i2l, 1) := by decide +kernel
theorem d_M_owed_84 : decode b_M_owed 84 = .ok (.ladd, 1) := by decide +kernel
theorem d_M_owed_85 : decode b_M_owed 85 = .ok (.goto 4, 3) := by decide +kernel
theorem d_M_owed_88 : decode b_M_owed 88 = .ok (.lload_n 2, 1) := by decide +kernel
theorem d_M_owed_89 : decode b_M_owed 89 = .ok (.lstore_n 2, 1) := by decide +kernel
theorem d_M_owed_90 : decode b_M_owed 90 = .ok (.iinc 4 1, 3) := by decide +kernel
theorem d_M_owed_93 : decode b_M_owed 93 = .ok (.goto (-72), 3) := by decide +kernel
theorem d_M_owed_96 : decode b_M_owed 96 = .ok (.lload_n 2, 1) := by decide +kernel
theorem d_M_owed_97 : decode b_M_owed 97 = .ok (.lreturn, 1) := by decide +kernel
theorem d_M_state_0 : decode b_M_state 0 = .ok (.aload_n 0, 1) := by decide +kernel
theorem d_M_state_1 : decode b_M_state 1 = .ok (.iload_n 1, 1) := by decide +kernel
theorem d_M_state_2 : decode b_M_state 2 = .ok (.ifCond .lt 11, 3) := by decide +kernel
theorem d_M_state_5 : decode b_M_state 5 = .ok (.iload_n 1, 1) := by decide +kernel
theorem d_M_state_6 : decode b_M_state 6 = .ok (.aload_n 0, 1) := by decide +kernel
theorem d_M_state_7 : decode b_M_state 7 = .ok (.getfield 74, 3) := by decide +kernel
theorem d_M_state_10 : decode b_M_state 10 = .ok (.if_icmp .lt 7, 3) := by decide +kernel
theorem d_M_state_13 : decode b_M_state 13 = .ok (.iconst 1, 1) := by decide +kernel
theorem d_M_state_14 : decode b_M_state 14 = .ok (.goto 4, 3) := by decide +kernel
theorem d_M_state_17 : decode b_M_state 17 = .ok (.iconst 0, 1) := by decide +kernel
theorem d_M_state_18 : decode b_M_state 18 = .ok (.putfield 70, 3) := by decide +kernel
theorem d_M_state_21 : decode b_M_state 21 = .ok (.aload_n 0, 1) := by decide +kernel
theorem d_M_state_22 : decode b_M_state 22 = .ok (.getfield 70, 3) := by decide +kernel
theorem d_M_state_25 : decode b_M_state 25 = .ok (.ifCond .le 7, 3) := by decide +kernel
theorem d_M_state_28 : decode b_M_state 28 = .ok (.iconst 0, 1) := by decide +kernel
theorem d_M_state_29 : decode b_M_state 29 = .ok (.goto 9, 3) := by decide +kernel
theorem d_M_state_32 : decode b_M_state 32 = .ok (.aload_n 0, 1) := by decide +kernel
theorem d_M_state_33 : decode b_M_state 33 = .ok (.getfield 31, 3) := by decide +kernel
theorem d_M_state_36 : decode b_M_state 36 = .ok (.iload_n 1, 1) := by decide +kernel
theorem d_M_state_37 : decode b_M_state 37 = .ok (.iaload, 1) := by decide +kernel
theorem d_M_state_38 : decode b_M_state 38 = .ok (.ireturn, 1) := by decide +kernel
