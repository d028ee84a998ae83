/-! decode rows -/
theorem dX3_init_0 : decode cX3_init 0 = .ok (.aload_n 0, 1) := by decide +kernel
theorem dX3_init_1 : decode cX3_init 1 = .ok (.invokespecial 3, 3) := by decide +kernel
theorem dX3_init_4 : decode cX3_init 4 = .ok (.aload_n 0, 1) := by decide +kernel
theorem dX3_init_5 : decode cX3_init 5 = .ok (.bipush 10, 2) := by decide +kernel
theorem dX3_init_7 : decode cX3_init 7 = .ok (.newarray .int, 2) := by decide +kernel
theorem dX3_init_9 : decode cX3_init 9 = .ok (.putfield 9, 3) := by decide +kernel
theorem dX3_init_12 : decode cX3_init 12 = .ok (.aload_n 0, 1) := by decide +kernel
theorem dX3_init_13 : decode cX3_init 13 = .ok (.bipush 10, 2) := by decide +kernel
theorem dX3_init_15 : decode cX3_init 15 = .ok (.newarray .int, 2) := by decide +kernel
theorem dX3_init_17 : decode cX3_init 17 = .ok (.putfield 15, 3) := by decide +kernel
theorem dX3_init_20 : decode cX3_init 20 = .ok (.aload_n 0, 1) := by decide +kernel
theorem dX3_init_21 : decode cX3_init 21 = .ok (.bipush 10, 2) := by decide +kernel
theorem dX3_init_23 : decode cX3_init 23 = .ok (.newarray .int, 2) := by decide +kernel
theorem dX3_init_25 : decode cX3_init 25 = .ok (.putfield 18, 3) := by decide +kernel
theorem dX3_init_28 : decode cX3_init 28 = .ok (.aload_n 0, 1) := by decide +kernel
theorem dX3_init_29 : decode cX3_init 29 = .ok (.bipush 10, 2) := by decide +kernel
theorem dX3_init_31 : decode cX3_init 31 = .ok (.newarray .int, 2) := by decide +kernel
theorem dX3_init_33 : decode cX3_init 33 = .ok (.putfield 21, 3) := by decide +kernel
theorem dX3_init_36 : decode cX3_init 36 = .ok (.aload_n 0, 1) := by decide +kernel
theorem dX3_init_37 : decode cX3_init 37 = .ok (.bipush 10, 2) := by decide +kernel
theorem dX3_init_39 : decode cX3_init 39 = .ok (.newarray .int, 2) := by decide +kernel
theorem dX3_init_41 : decode cX3_init 41 = .ok (.putfield 24, 3) := by decide +kernel
theorem dX3_init_44 : decode cX3_init 44 = .ok (.aload_n 0, 1) := by decide +kernel
theorem dX3_init_45 : decode cX3_init 45 = .ok (.iconst 4, 1) := by decide +kernel
theorem dX3_init_46 : decode cX3_init 46 = .ok (.anewarray 27, 3) := by decide +kernel
theorem dX3_init_49 : decode cX3_init 49 = .ok (.putfield 29, 3) := by decide +kernel
theorem dX3_init_52 : decode cX3_init 52 = .ok (.aload_n 0, 1) := by decide +kernel
theorem dX3_init_53 : decode cX3_init 53 = .ok (.bipush 30, 2) := by decide +kernel
theorem dX3_init_55 : decode cX3_init 55 = .ok (.anewarray 33, 3) := by decide +kernel
theorem dX3_init_58 : decode cX3_init 58 = .ok (.putfield 35, 3) := by decide +kernel
theorem dX3_init_61 : decode cX3_init 61 = .ok (.aload_n 0, 1) := by decide +kernel
theorem dX3_init_62 : decode cX3_init 62 = .ok (.bipush 60, 2) := by decide +kernel
theorem dX3_init_64 : decode cX3_init 64 = .ok (.newarray .int, 2) := by decide +kernel
theorem dX3_init_66 : decode cX3_init 66 = .ok (.putfield 39, 3) := by decide +kernel
theorem dX3_init_69 : decode cX3_init 69 = .ok (.aload_n 0, 1) := by decide +kernel
theorem dX3_init_70 : decode cX3_init 70 = .ok (.bipush 60, 2) := by decide +kernel
theorem dX3_init_72 : decode cX3_init 72 = .ok (.newarray .int, 2) := by decide +kernel
theorem dX3_init_74 : decode cX3_init 74 = .ok (.putfield 42, 3) := by decide +kernel
theorem dX3_init_77 : decode cX3_init 77 = .ok (.aload_n 0, 1) := by decide +kernel
theorem dX3_init_78 : decode cX3_init 78 = .ok (.bipush 60, 2) := by decide +kernel
theorem dX3_init_80 : decode cX3_init 80 = .ok (.newarray .int, 2) := by decide +kernel
theorem dX3_init_82 : decode cX3_init 82 = .ok (.putfield 45, 3) := by decide +kernel
theorem dX3_init_85 : decode cX3_init 85 = .ok (.aload_n 0, 1) := by decide +kernel
theorem dX3_init_86 : decode cX3_init 86 = .ok (.bipush 60, 2) := by decide +kernel
theorem dX3_init_88 : decode cX3_init 88 = .ok (.newarray .int, 2) := by decide +kernel
theorem dX3_init_90 : decode cX3_init 90 = .ok (.putfield 48, 3) := by decide +kernel
theorem dX3_init_93 : decode cX3_init 93 = .ok (.aload_n 0, 1) := by decide +kernel
theorem dX3_init_94 : decode cX3_init 94 = .ok (.aload_n 1, 1) := by decide +kernel
theorem dX3_init_95 : decode cX3_init 95 = .ok (.putfield 51, 3) := by decide +kernel
theorem dX3_init_98 : decode cX3_init 98 = .ok (.aload_n 0, 1) := by decide +kernel
theorem dX3_init_99 : decode cX3_init 99 = .ok (.aload_n 2, 1) := by decide +kernel
theorem dX3_init_100 : decode cX3_init 100 = .ok (.putfield 55, 3) := by decide +kernel
theorem dX3_init_103 : decode cX3_init 103 = .ok (.iconst 0, 1) := by decide +kernel
theorem dX3_init_104 : decode cX3_init 104 = .ok (.istore_n 3, 1) := by decide +kernel
theorem dX3_init_105 : decode cX3_init 105 = .ok (.iload_n 3, 1) := by decide +kernel
theorem dX3_init_106 : decode cX3_init 106 = .ok (.iconst 4, 1) := by decide +kernel
theorem dX3_init_107 : decode cX3_init 107 = .ok (.if_icmp .ge 22, 3) := by decide +kernel
theorem dX3_init_110 : decode cX3_init 110 = .ok (.aload_n 0, 1) := by decide +kernel
theorem dX3_init_111 : decode cX3_init 111 = .ok (.getfield 29, 3) := by decide +kernel
theorem dX3_init_114 : decode cX3_init 114 = .ok (.iload_n 3, 1) := by decide +kernel
theorem dX3_init_115 : decode cX3_init 115 = .ok (.new 27, 3) := by decide +kernel
theorem dX3_init_118 : decode cX3_init 118 = .ok (.dup, 1) := by decide +kernel
theorem dX3_init_119 : decode cX3_init 119 = .ok (.invokespecial 59, 3) := by decide +kernel
theorem dX3_init_122 : decode cX3_init 122 = .ok (.aastore, 1) := by decide +kernel
theorem dX3_init_123 : decode cX3_init 123 = .ok (.iinc 3 1, 3) := by decide +kernel
theorem dX3_init_126 : decode cX3_init 126 = .ok (.goto (-21), 3) := by decide +kernel
theorem dX3_init_129 : decode cX3_init 129 = .ok (.iconst 0, 1) := by decide +kernel
theorem dX3_init_130 : decode cX3_init 130 = .ok (.istore_n 3, 1) := by decide +kernel
theorem dX3_init_131 : decode cX3_init 131 = .ok (.iload_n 3, 1) := by decide +kernel
theorem dX3_init_132 : decode cX3_init 132 = .ok (.bipush 30, 2) := by decide +kernel
theorem dX3_init_134 : decode cX3_init 134 = .ok (.if_icmp .ge 22, 3) := by decide +kernel
theorem dX3_init_137 : decode cX3_init 137 = .ok (.aload_n 0, 1) := by decide +kernel
theorem dX3_init_138 : decode cX3_init 138 = .ok (.getfield 35, 3) := by decide +kernel
theorem dX3_init_141 : decode cX3_init 141 = .ok (.iload_n 3, 1) := by decide +kernel
theorem dX3_init_142 : decode cX3_init 142 = .ok (.new 33, 3) := by decide +kernel
theorem dX3_init_145 : decode cX3_init 145 = .ok (.dup, 1) := by decide +kernel
theorem dX3_init_146 : decode cX3_init 146 = .ok (.invokespecial 60, 3) := by decide +kernel
theorem dX3_init_149 : decode cX3_init 149 = .ok (.aastore, 1) := by decide +kernel
theorem dX3_init_150 : decode cX3_init 150 = .ok (.iinc 3 1, 3) := by decide +kernel
theorem dX3_init_153 : decode cX3_init 153 = .ok (.goto (-22), 3) := by decide +kernel
theorem dX3_init_156 : decode cX3_init 156 = .ok (.return_, 1) := by decide +kernel
theorem dX3_start_0 : decode cX3_start 0 = .ok (.aload_n 0, 1) := by decide +kernel
theorem dX3_start_1 : decode cX3_start 1 = .ok (.aload_n 1, 1) := by decide +kernel
theorem dX3_start_2 : decode cX3_start 2 = .ok (.putfield 51, 3) := by decide +kernel
theorem dX3_start_5 : decode cX3_start 5 = .ok (.aload_n 0, 1) := by decide +kernel
theorem dX3_start_6 : decode cX3_start 6 = .ok (.aload_n 2, 1) := by decide +kernel
theorem dX3_start_7 : decode cX3_start 7 = .ok (.putfield 55, 3) := by decide +kernel
theorem dX3_start_10 : decode cX3_start 10 = .ok (.aload_n 0, 1) := by decide +kernel
theorem dX3_start_11 : decode cX3_start 11 = .ok (.aload_n 1, 1) := by decide +kernel
theorem dX3_start_12 : decode cX3_start 12 = .ok (.getfield 61, 3) := by decide +kernel
theorem dX3_start_15 : decode cX3_start 15 = .ok (.putfield 67, 3) := by decide +kernel
theorem dX3_start_18 : decode cX3_start 18 = .ok (.aload_n 0, 1) := by decide +kernel
theorem dX3_start_19 : decode cX3_start 19 = .ok (.iconst 1, 1) := by decide +kernel
theorem dX3_start_20 : decode cX3_start 20 = .ok (.putfield 68, 3) := by decide +kernel
theorem dX3_start_23 : decode cX3_start 23 = .ok (.aload_n 1, 1) := by decide +kernel
theorem dX3_start_24 : decode cX3_start 24 = .ok (.getfield 71, 3) := by decide +kernel
theorem dX3_start_27 : decode cX3_start 27 = .ok (.aload_n 0, 1) := by decide +kernel
theorem dX3_start_28 : decode cX3_start 28 = .ok (.getfield 9, 3) := by decide +kernel
theorem dX3_start_31 : decode cX3_start 31 = .ok (.invokestatic 72, 3) := by decide +kernel
theorem dX3_start_34 : decode cX3_start 34 = .ok (.aload_n 0, 1) := by decide +kernel
theorem dX3_start_35 : decode cX3_start 35 = .ok (.getfield 15, 3) := by decide +kernel
theorem dX3_start_38 : decode cX3_start 38 = .ok (.iconst 0, 1) := by decide +kernel
theorem dX3_start_39 : decode cX3_start 39 = .ok (.invokestatic 76, 3) := by decide +kernel
theorem dX3_start_42 : decode cX3_start 42 = .ok (.aload_n 0, 1) := by decide +kernel
theorem dX3_start_43 : decode cX3_start 43 = .ok (.getfield 18, 3) := by decide +kernel
theorem dX3_start_46 : decode cX3_start 46 = .ok (.iconst 0, 1) := by decide +kernel
theorem dX3_start_47 : decode cX3_start 47 = .ok (.invokestatic 76, 3) := by decide +kernel
theorem dX3_start_50 : decode cX3_start 50 = .ok (.aload_n 0, 1) := by decide +kernel
theorem dX3_start_51 : decode cX3_start 51 = .ok (.getfield 21, 3) := by decide +kernel
theorem dX3_start_54 : decode cX3_start 54 = .ok (.iconst (-1), 1) := by decide +kernel
theorem dX3_start_55 : decode cX3_start 55 = .ok (.invokestatic 76, 3) := by decide +kernel
theorem dX3_start_58 : decode cX3_start 58 = .ok (.aload_n 0, 1) := by decide +kernel
theorem dX3_start_59 : decode cX3_start 59 = .ok (.getfield 24, 3) := by decide +kernel
theorem dX3_start_62 : decode cX3_start 62 = .ok (.iconst (-1), 1) := by decide +kernel
theorem dX3_start_63 : decode cX3_start 63 = .ok (.invokestatic 76, 3) := by decide +kernel
theorem dX3_start_66 : decode cX3_start 66 = .ok (.iconst 0, 1) := by decide +kernel
theorem dX3_start_67 : decode cX3_start 67 = .ok (.istore_n 3, 1) := by decide +kernel
theorem dX3_start_68 : decode cX3_start 68 = .ok (.iload_n 3, 1) := by decide +kernel
theorem dX3_start_69 : decode cX3_start 69 = .ok (.iconst 4, 1) := by decide +kernel
theorem dX3_start_70 : decode cX3_start 70 = .ok (.if_icmp .ge 19, 3) := by decide +kernel
theorem dX3_start_73 : decode cX3_start 73 = .ok (.aload_n 0, 1) := by decide +kernel
theorem dX3_start_74 : decode cX3_start 74 = .ok (.getfield 29, 3) := by decide +kernel
theorem dX3_start_77 : decode cX3_start 77 = .ok (.iload_n 3, 1) := by decide +kernel
theorem dX3_start_78 : decode cX3_start 78 = .ok (.aaload, 1) := by decide +kernel
theorem dX3_start_79 : decode cX3_start 79 = .ok (.iconst 0, 1) := by decide +kernel
theorem dX3_start_80 : decode cX3_start 80 = .ok (.invokevirtual 82, 3) := by decide +kernel
theorem dX3_start_83 : decode cX3_start 83 = .ok (.iinc 3 1, 3) := by decide +kernel
theorem dX3_start_86 : decode cX3_start 86 = .ok (.goto (-18), 3) := by decide +kernel
theorem dX3_start_89 : decode cX3_start 89 = .ok (.aload_n 0, 1) := by decide +kernel
theorem dX3_start_90 : decode cX3_start 90 = .ok (.iconst 0, 1) := by decide +kernel
theorem dX3_start_91 : decode cX3_start 91 = .ok (.putfield 86, 3) := by decide +kernel
theorem dX3_start_94 : decode cX3_start 94 = .ok (.aload_n 0, 1) := by decide +kernel
theorem dX3_start_95 : decode cX3_start 95 = .ok (.iconst 0, 1) := by decide +kernel
theorem dX3_start_96 : decode cX3_start 96 = .ok (.putfield 89, 3) := by decide +kernel
theorem dX3_start_99 : decode cX3_start 99 = .ok (.aload_n 0, 1) := by decide +kernel
theorem dX3_start_100 : decode cX3_start 100 = .ok (.iconst 0, 1) := by decide +kernel
theorem dX3_start_101 : decode cX3_start 101 = .ok (.putfield 92, 3) := by decide +kernel
theorem dX3_start_104 : decode cX3_start 104 = .ok (.aload_n 0, 1) := by decide +kernel
theorem dX3_start_105 : decode cX3_start 105 = .ok (.iconst 0, 1) := by decide +kernel
theorem dX3_start_106 : decode cX3_start 106 = .ok (.putfield 95, 3) := by decide +kernel
theorem dX3_start_109 : decode cX3_start 109 = .ok (.aload_n 0, 1) := by decide +kernel
theorem dX3_start_110 : decode cX3_start 110 = .ok (.iconst 0, 1) := by decide +kernel
theorem dX3_start_111 : decode cX3_start 111 = .ok (.putfield 98, 3) := by decide +kernel
theorem dX3_start_114 : decode cX3_start 114 = .ok (.return_, 1) := by decide +kernel
theorem dX3_perform_0 : decode cX3_perform 0 = .ok (.aload_n 0, 1) := by decide +kernel
theorem dX3_perform_1 : decode cX3_perform 1 = .ok (.iload_n 1, 1) := by decide +kernel
theorem dX3_perform_2 : decode cX3_perform 2 = .ok (.iload_n 2, 1) := by decide +kernel
theorem dX3_perform_3 : decode cX3_perform 3 = .ok (.iload_n 3, 1) := by decide +kernel
theorem dX3_perform_4 : decode cX3_perform 4 = .ok (.invokevirtual 101, 3) := by decide +kernel
theorem dX3_perform_7 : decode cX3_perform 7 = .ok (.ifCond .ne 5, 3) := by decide +kernel
theorem dX3_perform_10 : decode cX3_perform 10 = .ok (.iconst 0, 1) := by decide +kernel
theorem dX3_perform_11 : decode cX3_perform 11 = .ok (.ireturn, 1) := by decide +kernel
theorem dX3_perform_12 : decode cX3_perform 12 = .ok (.aload_n 0, 1) := by decide +kernel
theorem dX3_perform_13 : decode cX3_perform 13 = .ok (.getfield 39, 3) := by decide +kernel
theorem dX3_perform_16 : decode cX3_perform 16 = .ok (.aload_n 0, 1) := by decide +kernel
theorem dX3_perform_17 : decode cX3_perform 17 = .ok (.getfield 89, 3) := by decide +kernel
theorem dX3_perform_20 : decode cX3_perform 20 = .ok (.iconst 0, 1) := by decide +kernel
theorem dX3_perform_21 : decode cX3_perform 21 = .ok (.iastore, 1) := by decide +kernel
theorem dX3_perform_22 : decode cX3_perform 22 = .ok (.aload_n 0, 1) := by decide +kernel
theorem dX3_perform_23 : decode cX3_perform 23 = .ok (.getfield 42, 3) := by decide +kernel
theorem dX3_perform_26 : decode cX3_perform 26 = .ok (.aload_n 0, 1) := by decide +kernel
theorem dX3_perform_27 : decode cX3_perform 27 = .ok (.getfield 89, 3) := by decide +kernel
theorem dX3_perform_30 : decode cX3_perform 30 = .ok (.iconst (-1), 1) := by decide +kernel
theorem dX3_perform_31 : decode cX3_perform 31 = .ok (.iastore, 1) := by decide +kernel
theorem dX3_perform_32 : decode cX3_perform 32 = .ok (.aload_n 0, 1) := by decide +kernel
theorem dX3_perform_33 : decode cX3_perform 33 = .ok (.getfield 45, 3) := by decide +kernel
theorem dX3_perform_36 : decode cX3_perform 36 = .ok (.aload_n 0, 1) := by decide +kernel
theorem dX3_perform_37 : decode cX3_perform 37 = .ok (.getfield 89, 3) := by decide +kernel
theorem dX3_perform_40 : decode cX3_perform 40 = .ok (.iconst (-1), 1) := by decide +kernel
theorem dX3_perform_41 : decode cX3_perform 41 = .ok (.iastore, 1) := by decide +kernel
theorem dX3_perform_42 : decode cX3_perform 42 = .ok (.aload_n 0, 1) := by decide +kernel
theorem dX3_perform_43 : decode cX3_perform 43 = .ok (.getfield 48, 3) := by decide +kernel
theorem dX3_perform_46 : decode cX3_perform 46 = .ok (.aload_n 0, 1) := by decide +kernel
theorem dX3_perform_47 : decode cX3_perform 47 = .ok (.getfield 89, 3) := by decide +kernel
theorem dX3_perform_50 : decode cX3_perform 50 = .ok (.iconst (-1), 1) := by decide +kernel
theorem dX3_perform_51 : decode cX3_perform 51 = .ok (.iastore, 1) := by decide +kernel
theorem dX3_perform_52 : decode cX3_perform 52 = .ok (.iload_n 1, 1) := by decide +kernel
theorem dX3_perform_53 : decode cX3_perform 53 = .ok (.tableswitch 118 0 5 #[39, 52, 59, 72, 80, 110], 39) := by decide +kernel
theorem dX3_perform_92 : decode cX3_perform 92 = .ok (.aload_n 0, 1) := by decide +kernel
theorem dX3_perform_93 : decode cX3_perform 93 = .ok (.dup, 1) := by decide +kernel
theorem dX3_perform_94 : decode cX3_perform 94 = .ok (.getfield 68, 3) := by decide +kernel
theorem dX3_perform_97 : decode cX3_perform 97 = .ok (.iconst 1, 1) := by decide +kernel
theorem dX3_perform_98 : decode cX3_perform 98 = .ok (.iadd, 1) := by decide +kernel
theorem dX3_perform_99 : decode cX3_perform 99 = .ok (.putfield 68, 3) := by decide +kernel
theorem dX3_perform_102 : decode cX3_perform 102 = .ok (.goto 83, 3) := by decide +kernel
theorem dX3_perform_105 : decode cX3_perform 105 = .ok (.aload_n 0, 1) := by decide +kernel
theorem dX3_perform_106 : decode cX3_perform 106 = .ok (.invokevirtual 105, 3) := by decide +kernel
theorem dX3_perform_109 : decode cX3_perform 109 = .ok (.goto 76, 3) := by decide +kernel
theorem dX3_perform_112 : decode cX3_perform 112 = .ok (.aload_n 0, 1) := by decide +kernel
theorem dX3_perform_113 : decode cX3_perform 113 = .ok (.aload_n 0, 1) := by decide +kernel
theorem dX3_perform_114 : decode cX3_perform 114 = .ok (.getfield 29, 3) := by decide +kernel
theorem dX3_perform_117 : decode cX3_perform 117 = .ok (.iload_n 2, 1) := by decide +kernel
theorem dX3_perform_118 : decode cX3_perform 118 = .ok (.aaload, 1) := by decide +kernel
theorem dX3_perform_119 : decode cX3_perform 119 = .ok (.invokevirtual 108, 3) := by decide +kernel
theorem dX3_perform_122 : decode cX3_perform 122 = .ok (.goto 63, 3) := by decide +kernel
theorem dX3_perform_125 : decode cX3_perform 125 = .ok (.aload_n 0, 1) := by decide +kernel
theorem dX3_perform_126 : decode cX3_perform 126 = .ok (.iload_n 2, 1) := by decide +kernel
theorem dX3_perform_127 : decode cX3_perform 127 = .ok (.invokevirtual 112, 3) := by decide +kernel
theorem dX3_perform_130 : decode cX3_perform 130 = .ok (.goto 55, 3) := by decide +kernel
theorem dX3_perform_133 : decode cX3_perform 133 = .ok (.aload_n 0, 1) := by decide +kernel
theorem dX3_perform_134 : decode cX3_perform 134 = .ok (.dup, 1) := by decide +kernel
theorem dX3_perform_135 : decode cX3_perform 135 = .ok (.getfield 92, 3) := by decide +kernel
theorem dX3_perform_138 : decode cX3_perform 138 = .ok (.aload_n 0, 1) := by decide +kernel
theorem dX3_perform_139 : decode cX3_perform 139 = .ok (.getfield 29, 3) := by decide +kernel
theorem dX3_perform_142 : decode cX3_perform 142 = .ok (.iload_n 2, 1) := by decide +kernel
theorem dX3_perform_143 : decode cX3_perform 143 = .ok (.aaload, 1) := by decide +kernel
theorem dX3_perform_144 : decode cX3_perform 144 = .ok (.getfield 115, 3) := by decide +kernel
theorem dX3_perform_147 : decode cX3_perform 147 = .ok (.iadd, 1) := by decide +kernel
theorem dX3_perform_148 : decode cX3_perform 148 = .ok (.putfield 92, 3) := by decide +kernel
theorem dX3_perform_151 : decode cX3_perform 151 = .ok (.aload_n 0, 1) := by decide +kernel
theorem dX3_perform_152 : decode cX3_perform 152 = .ok (.getfield 29, 3) := by decide +kernel
theorem dX3_perform_155 : decode cX3_perform 155 = .ok (.iload_n 2, 1) := by decide +kernel
theorem dX3_perform_156 : decode cX3_perform 156 = .ok (.aaload, 1) := by decide +kernel
theorem dX3_perform_157 : decode cX3_perform 157 = .ok (.invokevirtual 118, 3) := by decide +kernel
theorem dX3_perform_160 : decode cX3_perform 160 = .ok (.goto 25, 3) := by decide +kernel
theorem dX3_perform_163 : decode cX3_perform 163 = .ok (.aload_n 0, 1) := by decide +kernel
theorem dX3_perform_164 : decode cX3_perform 164 = .ok (.iload_n 2, 1) := by decide +kernel
theorem dX3_perform_165 : decode cX3_perform 165 = .ok (.invokevirtual 121, 3) := by decide +kernel
theorem dX3_perform_168 : decode cX3_perform 168 = .ok (.goto 17, 3) := by decide +kernel
theorem dX3_perform_171 : decode cX3_perform 171 = .ok (.aload_n 0, 1) := by decide +kernel
theorem dX3_perform_172 : decode cX3_perform 172 = .ok (.getfield 29, 3) := by decide +kernel
theorem dX3_perform_175 : decode cX3_perform 175 = .ok (.iload_n 2, 1) := by decide +kernel
theorem dX3_perform_176 : decode cX3_perform 176 = .ok (.aaload, 1) := by decide +kernel
theorem dX3_perform_177 : decode cX3_perform 177 = .ok (.iload_n 3, 1) := by decide +kernel
theorem dX3_perform_178 : decode cX3_perform 178 = .ok (.aload_n 0, 1) := by decide +kernel
theorem dX3_perform_179 : decode cX3_perform 179 = .ok (.getfield 68, 3) := by decide +kernel
theorem dX3_perform_182 : decode cX3_perform 182 = .ok (.invokevirtual 124, 3) := by decide +kernel
theorem dX3_perform_185 : decode cX3_perform 185 = .ok (.aload_n 0, 1) := by decide +kernel
theorem dX3_perform_186 : decode cX3_perform 186 = .ok (.dup, 1) := by decide +kernel
theorem dX3_perform_187 : decode cX3_perform 187 = .ok (.getfield 89, 3) := by decide +kernel
theorem dX3_perform_190 : decode cX3_perform 190 = .ok (.iconst 1, 1) := by decide +kernel
theorem dX3_perform_191 : decode cX3_perform 191 = .ok (.iadd, 1) := by decide +kernel
theorem dX3_perform_192 : decode cX3_perform 192 = .ok (.putfield 89, 3) := by decide +kernel
theorem dX3_perform_195 : decode cX3_perform 195 = .ok (.iconst 1, 1) := by decide +kernel
theorem dX3_perform_196 : decode cX3_perform 196 = .ok (.ireturn, 1) := by decide +kernel
theorem dX3_can_0 : decode cX3_can 0 = .ok (.aload_n 0, 1) := by decide +kernel
theorem dX3_can_1 : decode cX3_can 1 = .ok (.getfield 89, 3) := by decide +kernel
theorem dX3_can_4 : decode cX3_can 4 = .ok (.bipush 60, 2) := by decide +kernel
theorem dX3_can_6 : decode cX3_can 6 = .ok (.if_icmp .lt 5, 3) := by decide +kernel
theorem dX3_can_9 : decode cX3_can 9 = .ok (.iconst 0, 1) := by decide +kernel
theorem dX3_can_10 : decode cX3_can 10 = .ok (.ireturn, 1) := by decide +kernel
theorem dX3_can_11 : decode cX3_can 11 = .ok (.iload_n 1, 1) := by decide +kernel
theorem dX3_can_12 : decode cX3_can 12 = .ok (.ifCond .ne 8, 3) := by decide +kernel
theorem dX3_can_15 : decode cX3_can 15 = .ok (.aload_n 0, 1) := by decide +kernel
theorem dX3_can_16 : decode cX3_can 16 = .ok (.invokevirtual 128, 3) := by decide +kernel
theorem dX3_can_19 : decode cX3_can 19 = .ok (.ireturn, 1) := by decide +kernel
theorem dX3_can_20 : decode cX3_can 20 = .ok (.iload_n 1, 1) := by decide +kernel
theorem dX3_can_21 : decode cX3_can 21 = .ok (.iconst 1, 1) := by decide +kernel
theorem dX3_can_22 : decode cX3_can 22 = .ok (.if_icmp .ne 5, 3) := by decide +kernel
theorem dX3_can_25 : decode cX3_can 25 = .ok (.iconst 1, 1) := by decide +kernel
theorem dX3_can_26 : decode cX3_can 26 = .ok (.ireturn, 1) := by decide +kernel
theorem dX3_can_27 : decode cX3_can 27 = .ok (.iload_n 2, 1) := by decide +kernel
theorem dX3_can_28 : decode cX3_can 28 = .ok (.ifCond .lt 11, 3) := by decide +kernel
theorem dX3_can_31 : decode cX3_can 31 = .ok (.iload_n 2, 1) := by decide +kernel
theorem dX3_can_32 : decode cX3_can 32 = .ok (.aload_n 0, 1) := by decide +kernel
theorem dX3_can_33 : decode cX3_can 33 = .ok (.getfield 67, 3) := by decide +kernel
theorem dX3_can_36 : decode cX3_can 36 = .ok (.if_icmp .lt 5, 3) := by decide +kernel
theorem dX3_can_39 : decode cX3_can 39 = .ok (.iconst 0, 1) := by decide +kernel
theorem dX3_can_40 : decode cX3_can 40 = .ok (.ireturn, 1) := by decide +kernel
theorem dX3_can_41 : decode cX3_can 41 = .ok (.aload_n 0, 1) := by decide +kernel
theorem dX3_can_42 : decode cX3_can 42 = .ok (.getfield 29, 3) := by decide +kernel
theorem dX3_can_45 : decode cX3_can 45 = .ok (.iload_n 2, 1) := by decide +kernel
theorem dX3_can_46 : decode cX3_can 46 = .ok (.aaload, 1) := by decide +kernel
theorem dX3_can_47 : decode cX3_can 47 = .ok (.astore 4, 2) := by decide +kernel
theorem dX3_can_49 : decode cX3_can 49 = .ok (.aload 4, 2) := by decide +kernel
theorem dX3_can_51 : decode cX3_can 51 = .ok (.getfield 132, 3) := by decide +kernel
theorem dX3_can_54 : decode cX3_can 54 = .ok (.iconst (-1), 1) := by decide +kernel
theorem dX3_can_55 : decode cX3_can 55 = .ok (.if_icmp .eq 7, 3) := by decide +kernel
theorem dX3_can_58 : decode cX3_can 58 = .ok (.iconst 1, 1) := by decide +kernel
theorem dX3_can_59 : decode cX3_can 59 = .ok (.goto 4, 3) := by decide +kernel
theorem dX3_can_62 : decode cX3_can 62 = .ok (.iconst 0, 1) := by decide +kernel
theorem dX3_can_63 : decode cX3_can 63 = .ok (.istore 5, 2) := by decide +kernel
theorem dX3_can_65 : decode cX3_can 65 = .ok (.iload_n 1, 1) := by decide +kernel
theorem dX3_can_66 : decode cX3_can 66 = .ok (.tableswitch 99 2 5 #[30, 62, 94, 97], 30) := by decide +kernel
theorem dX3_can_96 : decode cX3_can 96 = .ok (.iload 5, 2) := by decide +kernel
theorem dX3_can_98 : decode cX3_can 98 = .ok (.ifCond .eq 28, 3) := by decide +kernel
theorem dX3_can_101 : decode cX3_can 101 = .ok (.aload 4, 2) := by decide +kernel
theorem dX3_can_103 : decode cX3_can 103 = .ok (.getfield 115, 3) := by decide +kernel
theorem dX3_can_106 : decode cX3_can 106 = .ok (.aload_n 0, 1) := by decide +kernel
theorem dX3_can_107 : decode cX3_can 107 = .ok (.getfield 55, 3) := by decide +kernel
theorem dX3_can_110 : decode cX3_can 110 = .ok (.getfield 135, 3) := by decide +kernel
theorem dX3_can_113 : decode cX3_can 113 = .ok (.aload 4, 2) := by decide +kernel
theorem dX3_can_115 : decode cX3_can 115 = .ok (.getfield 132, 3) := by decide +kernel
theorem dX3_can_118 : decode cX3_can 118 = .ok (.iaload, 1) := by decide +kernel
theorem dX3_can_119 : decode cX3_can 119 = .ok (.if_icmp .ge 7, 3) := by decide +kernel
theorem dX3_can_122 : decode cX3_can 122 = .ok (.iconst 1, 1) := by decide +kernel
theorem dX3_can_123 : decode cX3_can 123 = .ok (.goto 4, 3) := by decide +kernel
theorem dX3_can_126 : decode cX3_can 126 = .ok (.iconst 0, 1) := by decide +kernel
theorem dX3_can_127 : decode cX3_can 127 = .ok (.ireturn, 1) := by decide +kernel
theorem dX3_can_128 : decode cX3_can 128 = .ok (.iload 5, 2) := by decide +kernel
theorem dX3_can_130 : decode cX3_can 130 = .ok (.ifCond .eq 28, 3) := by decide +kernel
theorem dX3_can_133 : decode cX3_can 133 = .ok (.aload 4, 2) := by decide +kernel
theorem dX3_can_135 : decode cX3_can 135 = .ok (.getfield 115, 3) := by decide +kernel
theorem dX3_can_138 : decode cX3_can 138 = .ok (.aload_n 0, 1) := by decide +kernel
theorem dX3_can_139 : decode cX3_can 139 = .ok (.getfield 55, 3) := by decide +kernel
theorem dX3_can_142 : decode cX3_can 142 = .ok (.getfield 135, 3) := by decide +kernel
theorem dX3_can_145 : decode cX3_can 145 = .ok (.aload 4, 2) := by decide +kernel
theorem dX3_can_147 : decode cX3_can 147 = .ok (.getfield 132, 3) := by decide +kernel
theorem dX3_can_150 : decode cX3_can 150 = .ok (.iaload, 1) := by decide +kernel
theorem dX3_can_151 : decode cX3_can 151 = .ok (.if_icmp .lt 7, 3) := by decide +kernel
theorem dX3_can_154 : decode cX3_can 154 = .ok (.iconst 1, 1) := by decide +kernel
theorem dX3_can_155 : decode cX3_can 155 = .ok (.goto 4, 3) := by decide +kernel
theorem dX3_can_158 : decode cX3_can 158 = .ok (.iconst 0, 1) := by decide +kernel
theorem dX3_can_159 : decode cX3_can 159 = .ok (.ireturn, 1) := by decide +kernel
theorem dX3_can_160 : decode cX3_can 160 = .ok (.iload 5, 2) := by decide +kernel
theorem dX3_can_162 : decode cX3_can 162 = .ok (.ireturn, 1) := by decide +kernel
theorem dX3_can_163 : decode cX3_can 163 = .ok (.iconst 1, 1) := by decide +kernel
theorem dX3_can_164 : decode cX3_can 164 = .ok (.ireturn, 1) := by decide +kernel
theorem dX3_can_165 : decode cX3_can 165 = .ok (.iload_n 1, 1) := by decide +kernel
theorem dX3_can_166 : decode cX3_can 166 = .ok (.bipush 6, 2) := by decide +kernel
theorem dX3_can_168 : decode cX3_can 168 = .ok (.if_icmp .ne 23, 3) := by decide +kernel
theorem dX3_can_171 : decode cX3_can 171 = .ok (.iload 5, 2) := by decide +kernel
theorem dX3_can_173 : decode cX3_can 173 = .ok (.ifCond .ne 18, 3) := by decide +kernel
theorem dX3_can_176 : decode cX3_can 176 = .ok (.aload_n 0, 1) := by decide +kernel
theorem dX3_can_177 : decode cX3_can 177 = .ok (.getfield 55, 3) := by decide +kernel
theorem dX3_can_180 : decode cX3_can 180 = .ok (.iload_n 3, 1) := by decide +kernel
theorem dX3_can_181 : decode cX3_can 181 = .ok (.invokevirtual 140, 3) := by decide +kernel
theorem dX3_can_184 : decode cX3_can 184 = .ok (.ifCond .eq 7, 3) := by decide +kernel
theorem dX3_can_187 : decode cX3_can 187 = .ok (.iconst 1, 1) := by decide +kernel
theorem dX3_can_188 : decode cX3_can 188 = .ok (.goto 4, 3) := by decide +kernel
theorem dX3_can_191 : decode cX3_can 191 = .ok (.iconst 0, 1) := by decide +kernel
theorem dX3_can_192 : decode cX3_can 192 = .ok (.ireturn, 1) := by decide +kernel
theorem dX3_canTurnEpoch_0 : decode cX3_canTurnEpoch 0 = .ok (.aload_n 0, 1) := by decide +kernel
theorem dX3_canTurnEpoch_1 : decode cX3_canTurnEpoch 1 = .ok (.getfield 68, 3) := by decide +kernel
theorem dX3_canTurnEpoch_4 : decode cX3_canTurnEpoch 4 = .ok (.bipush 50, 2) := by decide +kernel
theorem dX3_canTurnEpoch_6 : decode cX3_canTurnEpoch 6 = .ok (.if_icmp .lt 5, 3) := by decide +kernel
theorem dX3_canTurnEpoch_9 : decode cX3_canTurnEpoch 9 = .ok (.iconst 0, 1) := by decide +kernel
theorem dX3_canTurnEpoch_10 : decode cX3_canTurnEpoch 10 = .ok (.ireturn, 1) := by decide +kernel
theorem dX3_canTurnEpoch_11 : decode cX3_canTurnEpoch 11 = .ok (.iconst 0, 1) := by decide +kernel
theorem dX3_canTurnEpoch_12 : decode cX3_canTurnEpoch 12 = .ok (.istore_n 1, 1) := by decide +kernel
theorem dX3_canTurnEpoch_13 : decode cX3_canTurnEpoch 13 = .ok (.iload_n 1, 1) := by decide +kernel
theorem dX3_canTurnEpoch_14 : decode cX3_canTurnEpoch 14 = .ok (.aload_n 0, 1) := by decide +kernel
theorem dX3_canTurnEpoch_15 : decode cX3_canTurnEpoch 15 = .ok (.getfield 67, 3) := by decide +kernel
theorem dX3_canTurnEpoch_18 : decode cX3_canTurnEpoch 18 = .ok (.if_icmp .ge 40, 3) := by decide +kernel
theorem dX3_canTurnEpoch_21 : decode cX3_canTurnEpoch 21 = .ok (.aload_n 0, 1) := by decide +kernel
theorem dX3_canTurnEpoch_22 : decode cX3_canTurnEpoch 22 = .ok (.getfield 29, 3) := by decide +kernel
theorem dX3_canTurnEpoch_25 : decode cX3_canTurnEpoch 25 = .ok (.iload_n 1, 1) := by decide +kernel
theorem dX3_canTurnEpoch_26 : decode cX3_canTurnEpoch 26 = .ok (.aaload, 1) := by decide +kernel
theorem dX3_canTurnEpoch_27 : decode cX3_canTurnEpoch 27 = .ok (.getfield 132, 3) := by decide +kernel
theorem dX3_canTurnEpoch_30 : decode cX3_canTurnEpoch 30 = .ok (.iconst (-1), 1) := by decide +kernel
theorem dX3_canTurnEpoch_31 : decode cX3_canTurnEpoch 31 = .ok (.if_icmp .eq 21, 3) := by decide +kernel
theorem dX3_canTurnEpoch_34 : decode cX3_canTurnEpoch 34 = .ok (.aload_n 0, 1) := by decide +kernel
theorem dX3_canTurnEpoch_35 : decode cX3_canTurnEpoch 35 = .ok (.getfield 29, 3) := by decide +kernel
theorem dX3_canTurnEpoch_38 : decode cX3_canTurnEpoch 38 = .ok (.iload_n 1, 1) := by decide +kernel
theorem dX3_canTurnEpoch_39 : decode cX3_canTurnEpoch 39 = .ok (.aaload, 1) := by decide +kernel
theorem dX3_canTurnEpoch_40 : decode cX3_canTurnEpoch 40 = .ok (.getfield 144, 3) := by decide +kernel
theorem dX3_canTurnEpoch_43 : decode cX3_canTurnEpoch 43 = .ok (.aload_n 0, 1) := by decide +kernel
theorem dX3_canTurnEpoch_44 : decode cX3_canTurnEpoch 44 = .ok (.getfield 68, 3) := by decide +kernel
theorem dX3_canTurnEpoch_47 : decode cX3_canTurnEpoch 47 = .ok (.if_icmp .ge 5, 3) := by decide +kernel
theorem dX3_canTurnEpoch_50 : decode cX3_canTurnEpoch 50 = .ok (.iconst 0, 1) := by decide +kernel
theorem dX3_canTurnEpoch_51 : decode cX3_canTurnEpoch 51 = .ok (.ireturn, 1) := by decide +kernel
theorem dX3_canTurnEpoch_52 : decode cX3_canTurnEpoch 52 = .ok (.iinc 1 1, 3) := by decide +kernel
theorem dX3_canTurnEpoch_55 : decode cX3_canTurnEpoch 55 = .ok (.goto (-42), 3) := by decide +kernel
theorem dX3_canTurnEpoch_58 : decode cX3_canTurnEpoch 58 = .ok (.iconst 1, 1) := by decide +kernel
theorem dX3_canTurnEpoch_59 : decode cX3_canTurnEpoch 59 = .ok (.ireturn, 1) := by decide +kernel
theorem dX3_writeToDisk_0 : decode cX3_writeToDisk 0 = .ok (.iconst 0, 1) := by decide +kernel
theorem dX3_writeToDisk_1 : decode cX3_writeToDisk 1 = .ok (.istore_n 2, 1) := by decide +kernel
theorem dX3_writeToDisk_2 : decode cX3_writeToDisk 2 = .ok (.iload_n 2, 1) := by decide +kernel
theorem dX3_writeToDisk_3 : decode cX3_writeToDisk 3 = .ok (.aload_n 0, 1) := by decide +kernel
theorem dX3_writeToDisk_4 : decode cX3_writeToDisk 4 = .ok (.getfield 86, 3) := by decide +kernel
theorem dX3_writeToDisk_7 : decode cX3_writeToDisk 7 = .ok (.if_icmp .ge 32, 3) := by decide +kernel
theorem dX3_writeToDisk_10 : decode cX3_writeToDisk 10 = .ok (.aload_n 0, 1) := by decide +kernel
theorem dX3_writeToDisk_11 : decode cX3_writeToDisk 11 = .ok (.getfield 35, 3) := by decide +kernel
theorem dX3_writeToDisk_14 : decode cX3_writeToDisk 14 = .ok (.iload_n 2, 1) := by decide +kernel
theorem dX3_writeToDisk_15 : decode cX3_writeToDisk 15 = .ok (.aaload, 1) := by decide +kernel
theorem dX3_writeToDisk_16 : decode cX3_writeToDisk 16 = .ok (.getfield 147, 3) := by decide +kernel
theorem dX3_writeToDisk_19 : decode cX3_writeToDisk 19 = .ok (.iload_n 1, 1) := by decide +kernel
theorem dX3_writeToDisk_20 : decode cX3_writeToDisk 20 = .ok (.if_icmp .ne 13, 3) := by decide +kernel
theorem dX3_writeToDisk_23 : decode cX3_writeToDisk 23 = .ok (.aload_n 0, 1) := by decide +kernel
theorem dX3_writeToDisk_24 : decode cX3_writeToDisk 24 = .ok (.getfield 35, 3) := by decide +kernel
theorem dX3_writeToDisk_27 : decode cX3_writeToDisk 27 = .ok (.iload_n 2, 1) := by decide +kernel
theorem dX3_writeToDisk_28 : decode cX3_writeToDisk 28 = .ok (.aaload, 1) := by decide +kernel
theorem dX3_writeToDisk_29 : decode cX3_writeToDisk 29 = .ok (.iconst 1, 1) := by decide +kernel
theorem dX3_writeToDisk_30 : decode cX3_writeToDisk 30 = .ok (.putfield 150, 3) := by decide +kernel
theorem dX3_writeToDisk_33 : decode cX3_writeToDisk 33 = .ok (.iinc 2 1, 3) := by decide +kernel
theorem dX3_writeToDisk_36 : decode cX3_writeToDisk 36 = .ok (.goto (-34), 3) := by decide +kernel
theorem dX3_writeToDisk_39 : decode cX3_writeToDisk 39 = .ok (.aload_n 0, 1) := by decide +kernel
theorem dX3_writeToDisk_40 : decode cX3_writeToDisk 40 = .ok (.getfield 29, 3) := by decide +kernel
theorem dX3_writeToDisk_43 : decode cX3_writeToDisk 43 = .ok (.iload_n 1, 1) := by decide +kernel
theorem dX3_writeToDisk_44 : decode cX3_writeToDisk 44 = .ok (.aaload, 1) := by decide +kernel
theorem dX3_writeToDisk_45 : decode cX3_writeToDisk 45 = .ok (.aload_n 0, 1) := by decide +kernel
theorem dX3_writeToDisk_46 : decode cX3_writeToDisk 46 = .ok (.getfield 68, 3) := by decide +kernel
theorem dX3_writeToDisk_49 : decode cX3_writeToDisk 49 = .ok (.iconst 1, 1) := by decide +kernel
theorem dX3_writeToDisk_50 : decode cX3_writeToDisk 50 = .ok (.isub, 1) := by decide +kernel
theorem dX3_writeToDisk_51 : decode cX3_writeToDisk 51 = .ok (.putfield 154, 3) := by decide +kernel
theorem dX3_writeToDisk_54 : decode cX3_writeToDisk 54 = .ok (.return_, 1) := by decide +kernel
theorem dX3_breakDown_0 : decode cX3_breakDown 0 = .ok (.aload_n 0, 1) := by decide +kernel
theorem dX3_breakDown_1 : decode cX3_breakDown 1 = .ok (.iconst 0, 1) := by decide +kernel
theorem dX3_breakDown_2 : decode cX3_breakDown 2 = .ok (.invokevirtual 157, 3) := by decide +kernel
theorem dX3_breakDown_5 : decode cX3_breakDown 5 = .ok (.istore_n 1, 1) := by decide +kernel
theorem dX3_breakDown_6 : decode cX3_breakDown 6 = .ok (.aload_n 0, 1) := by decide +kernel
theorem dX3_breakDown_7 : decode cX3_breakDown 7 = .ok (.dup, 1) := by decide +kernel
theorem dX3_breakDown_8 : decode cX3_breakDown 8 = .ok (.getfield 95, 3) := by decide +kernel
theorem dX3_breakDown_11 : decode cX3_breakDown 11 = .ok (.iconst 1, 1) := by decide +kernel
theorem dX3_breakDown_12 : decode cX3_breakDown 12 = .ok (.iadd, 1) := by decide +kernel
theorem dX3_breakDown_13 : decode cX3_breakDown 13 = .ok (.putfield 95, 3) := by decide +kernel
theorem dX3_breakDown_16 : decode cX3_breakDown 16 = .ok (.aload_n 0, 1) := by decide +kernel
theorem dX3_breakDown_17 : decode cX3_breakDown 17 = .ok (.dup, 1) := by decide +kernel
theorem dX3_breakDown_18 : decode cX3_breakDown 18 = .ok (.getfield 98, 3) := by decide +kernel
theorem dX3_breakDown_21 : decode cX3_breakDown 21 = .ok (.aload_n 0, 1) := by decide +kernel
theorem dX3_breakDown_22 : decode cX3_breakDown 22 = .ok (.invokevirtual 161, 3) := by decide +kernel
theorem dX3_breakDown_25 : decode cX3_breakDown 25 = .ok (.iadd, 1) := by decide +kernel
theorem dX3_breakDown_26 : decode cX3_breakDown 26 = .ok (.putfield 98, 3) := by decide +kernel
theorem dX3_breakDown_29 : decode cX3_breakDown 29 = .ok (.iconst 0, 1) := by decide +kernel
theorem dX3_breakDown_30 : decode cX3_breakDown 30 = .ok (.istore_n 2, 1) := by decide +kernel
theorem dX3_breakDown_31 : decode cX3_breakDown 31 = .ok (.iload_n 2, 1) := by decide +kernel
theorem dX3_breakDown_32 : decode cX3_breakDown 32 = .ok (.aload_n 0, 1) := by decide +kernel
theorem dX3_breakDown_33 : decode cX3_breakDown 33 = .ok (.getfield 86, 3) := by decide +kernel
theorem dX3_breakDown_36 : decode cX3_breakDown 36 = .ok (.if_icmp .ge 37, 3) := by decide +kernel
theorem dX3_breakDown_39 : decode cX3_breakDown 39 = .ok (.aload_n 0, 1) := by decide +kernel
theorem dX3_breakDown_40 : decode cX3_breakDown 40 = .ok (.getfield 35, 3) := by decide +kernel
theorem dX3_breakDown_43 : decode cX3_breakDown 43 = .ok (.iload_n 2, 1) := by decide +kernel
theorem dX3_breakDown_44 : decode cX3_breakDown 44 = .ok (.aaload, 1) := by decide +kernel
theorem dX3_breakDown_45 : decode cX3_breakDown 45 = .ok (.aload_n 0, 1) := by decide +kernel
theorem dX3_breakDown_46 : decode cX3_breakDown 46 = .ok (.getfield 35, 3) := by decide +kernel
theorem dX3_breakDown_49 : decode cX3_breakDown 49 = .ok (.iload_n 2, 1) := by decide +kernel
theorem dX3_breakDown_50 : decode cX3_breakDown 50 = .ok (.aaload, 1) := by decide +kernel
theorem dX3_breakDown_51 : decode cX3_breakDown 51 = .ok (.iconst 0, 1) := by decide +kernel
theorem dX3_breakDown_52 : decode cX3_breakDown 52 = .ok (.iload_n 1, 1) := by decide +kernel
theorem dX3_breakDown_53 : decode cX3_breakDown 53 = .ok (.invokestatic 165, 3) := by decide +kernel
theorem dX3_breakDown_56 : decode cX3_breakDown 56 = .ok (.ifCond .ne 7, 3) := by decide +kernel
theorem dX3_breakDown_59 : decode cX3_breakDown 59 = .ok (.iconst 1, 1) := by decide +kernel
theorem dX3_breakDown_60 : decode cX3_breakDown 60 = .ok (.goto 4, 3) := by decide +kernel
theorem dX3_breakDown_63 : decode cX3_breakDown 63 = .ok (.iconst 0, 1) := by decide +kernel
theorem dX3_breakDown_64 : decode cX3_breakDown 64 = .ok (.putfield 169, 3) := by decide +kernel
theorem dX3_breakDown_67 : decode cX3_breakDown 67 = .ok (.iinc 2 1, 3) := by decide +kernel
theorem dX3_breakDown_70 : decode cX3_breakDown 70 = .ok (.goto (-39), 3) := by decide +kernel
theorem dX3_breakDown_73 : decode cX3_breakDown 73 = .ok (.aload_n 0, 1) := by decide +kernel
theorem dX3_breakDown_74 : decode cX3_breakDown 74 = .ok (.iconst 0, 1) := by decide +kernel
theorem dX3_breakDown_75 : decode cX3_breakDown 75 = .ok (.aload_n 0, 1) := by decide +kernel
theorem dX3_breakDown_76 : decode cX3_breakDown 76 = .ok (.getfield 9, 3) := by decide +kernel
theorem dX3_breakDown_79 : decode cX3_breakDown 79 = .ok (.aload_n 0, 1) := by decide +kernel
theorem dX3_breakDown_80 : decode cX3_breakDown 80 = .ok (.getfield 15, 3) := by decide +kernel
theorem dX3_breakDown_83 : decode cX3_breakDown 83 = .ok (.invokevirtual 172, 3) := by decide +kernel
theorem dX3_breakDown_86 : decode cX3_breakDown 86 = .ok (.aload_n 0, 1) := by decide +kernel
theorem dX3_breakDown_87 : decode cX3_breakDown 87 = .ok (.getfield 18, 3) := by decide +kernel
theorem dX3_breakDown_90 : decode cX3_breakDown 90 = .ok (.iconst 0, 1) := by decide +kernel
theorem dX3_breakDown_91 : decode cX3_breakDown 91 = .ok (.invokestatic 76, 3) := by decide +kernel
theorem dX3_breakDown_94 : decode cX3_breakDown 94 = .ok (.iconst 0, 1) := by decide +kernel
theorem dX3_breakDown_95 : decode cX3_breakDown 95 = .ok (.istore_n 2, 1) := by decide +kernel
theorem dX3_breakDown_96 : decode cX3_breakDown 96 = .ok (.iload_n 2, 1) := by decide +kernel
theorem dX3_breakDown_97 : decode cX3_breakDown 97 = .ok (.aload_n 0, 1) := by decide +kernel
theorem dX3_breakDown_98 : decode cX3_breakDown 98 = .ok (.getfield 67, 3) := by decide +kernel
theorem dX3_breakDown_101 : decode cX3_breakDown 101 = .ok (.if_icmp .ge 37, 3) := by decide +kernel
theorem dX3_breakDown_104 : decode cX3_breakDown 104 = .ok (.aload_n 0, 1) := by decide +kernel
theorem dX3_breakDown_105 : decode cX3_breakDown 105 = .ok (.dup, 1) := by decide +kernel
theorem dX3_breakDown_106 : decode cX3_breakDown 106 = .ok (.getfield 92, 3) := by decide +kernel
theorem dX3_breakDown_109 : decode cX3_breakDown 109 = .ok (.aload_n 0, 1) := by decide +kernel
theorem dX3_breakDown_110 : decode cX3_breakDown 110 = .ok (.getfield 29, 3) := by decide +kernel
theorem dX3_breakDown_113 : decode cX3_breakDown 113 = .ok (.iload_n 2, 1) := by decide +kernel
theorem dX3_breakDown_114 : decode cX3_breakDown 114 = .ok (.aaload, 1) := by decide +kernel
theorem dX3_breakDown_115 : decode cX3_breakDown 115 = .ok (.getfield 115, 3) := by decide +kernel
theorem dX3_breakDown_118 : decode cX3_breakDown 118 = .ok (.iadd, 1) := by decide +kernel
theorem dX3_breakDown_119 : decode cX3_breakDown 119 = .ok (.putfield 92, 3) := by decide +kernel
theorem dX3_breakDown_122 : decode cX3_breakDown 122 = .ok (.aload_n 0, 1) := by decide +kernel
theorem dX3_breakDown_123 : decode cX3_breakDown 123 = .ok (.getfield 29, 3) := by decide +kernel
theorem dX3_breakDown_126 : decode cX3_breakDown 126 = .ok (.iload_n 2, 1) := by decide +kernel
theorem dX3_breakDown_127 : decode cX3_breakDown 127 = .ok (.aaload, 1) := by decide +kernel
theorem dX3_breakDown_128 : decode cX3_breakDown 128 = .ok (.iload_n 1, 1) := by decide +kernel
theorem dX3_breakDown_129 : decode cX3_breakDown 129 = .ok (.invokevirtual 82, 3) := by decide +kernel
theorem dX3_breakDown_132 : decode cX3_breakDown 132 = .ok (.iinc 2 1, 3) := by decide +kernel
theorem dX3_breakDown_135 : decode cX3_breakDown 135 = .ok (.goto (-39), 3) := by decide +kernel
theorem dX3_breakDown_138 : decode cX3_breakDown 138 = .ok (.aload_n 0, 1) := by decide +kernel
theorem dX3_breakDown_139 : decode cX3_breakDown 139 = .ok (.iload_n 1, 1) := by decide +kernel
theorem dX3_breakDown_140 : decode cX3_breakDown 140 = .ok (.iconst 1, 1) := by decide +kernel
theorem dX3_breakDown_141 : decode cX3_breakDown 141 = .ok (.iadd, 1) := by decide +kernel
theorem dX3_breakDown_142 : decode cX3_breakDown 142 = .ok (.putfield 68, 3) := by decide +kernel
theorem dX3_breakDown_145 : decode cX3_breakDown 145 = .ok (.return_, 1) := by decide +kernel
theorem dX3_durableWith_0 : decode cX3_durableWith 0 = .ok (.bipush 50, 2) := by decide +kernel
theorem dX3_durableWith_2 : decode cX3_durableWith 2 = .ok (.istore_n 2, 1) := by decide +kernel
theorem dX3_durableWith_3 : decode cX3_durableWith 3 = .ok (.iconst 0, 1) := by decide +kernel
theorem dX3_durableWith_4 : decode cX3_durableWith 4 = .ok (.istore_n 3, 1) := by decide +kernel
theorem dX3_durableWith_5 : decode cX3_durableWith 5 = .ok (.iload_n 3, 1) := by decide +kernel
theorem dX3_durableWith_6 : decode cX3_durableWith 6 = .ok (.aload_n 0, 1) := by decide +kernel
theorem dX3_durableWith_7 : decode cX3_durableWith 7 = .ok (.getfield 67, 3) := by decide +kernel
theorem dX3_durableWith_10 : decode cX3_durableWith 10 = .ok (.if_icmp .ge 40, 3) := by decide +kernel
theorem dX3_durableWith_13 : decode cX3_durableWith 13 = .ok (.iload_n 2, 1) := by decide +kernel
theorem dX3_durableWith_14 : decode cX3_durableWith 14 = .ok (.iload_n 1, 1) := by decide +kernel
theorem dX3_durableWith_15 : decode cX3_durableWith 15 = .ok (.iload_n 3, 1) := by decide +kernel
theorem dX3_durableWith_16 : decode cX3_durableWith 16 = .ok (.invokestatic 176, 3) := by decide +kernel
theorem dX3_durableWith_19 : decode cX3_durableWith 19 = .ok (.ifCond .eq 12, 3) := by decide +kernel
theorem dX3_durableWith_22 : decode cX3_durableWith 22 = .ok (.aload_n 0, 1) := by decide +kernel
theorem dX3_durableWith_23 : decode cX3_durableWith 23 = .ok (.getfield 68, 3) := by decide +kernel
theorem dX3_durableWith_26 : decode cX3_durableWith 26 = .ok (.iconst 1, 1) := by decide +kernel
theorem dX3_durableWith_27 : decode cX3_durableWith 27 = .ok (.isub, 1) := by decide +kernel
theorem dX3_durableWith_28 : decode cX3_durableWith 28 = .ok (.goto 12, 3) := by decide +kernel
theorem dX3_durableWith_31 : decode cX3_durableWith 31 = .ok (.aload_n 0, 1) := by decide +kernel
theorem dX3_durableWith_32 : decode cX3_durableWith 32 = .ok (.getfield 29, 3) := by decide +kernel
theorem dX3_durableWith_35 : decode cX3_durableWith 35 = .ok (.iload_n 3, 1) := by decide +kernel
theorem dX3_durableWith_36 : decode cX3_durableWith 36 = .ok (.aaload, 1) := by decide +kernel
theorem dX3_durableWith_37 : decode cX3_durableWith 37 = .ok (.getfield 154, 3) := by decide +kernel
theorem dX3_durableWith_40 : decode cX3_durableWith 40 = .ok (.invokestatic 180, 3) := by decide +kernel
theorem dX3_durableWith_43 : decode cX3_durableWith 43 = .ok (.istore_n 2, 1) := by decide +kernel
theorem dX3_durableWith_44 : decode cX3_durableWith 44 = .ok (.iinc 3 1, 3) := by decide +kernel
theorem dX3_durableWith_47 : decode cX3_durableWith 47 = .ok (.goto (-42), 3) := by decide +kernel
theorem dX3_durableWith_50 : decode cX3_durableWith 50 = .ok (.iload_n 2, 1) := by decide +kernel
theorem dX3_durableWith_51 : decode cX3_durableWith 51 = .ok (.ireturn, 1) := by decide +kernel
theorem dX3_survives_0 : decode cX3_survives 0 = .ok (.aload_n 0, 1) := by decide +kernel
theorem dX3_survives_1 : decode cX3_survives 1 = .ok (.getfield 150, 3) := by decide +kernel
theorem dX3_survives_4 : decode cX3_survives 4 = .ok (.ifCond .ne 14, 3) := by decide +kernel
theorem dX3_survives_7 : decode cX3_survives 7 = .ok (.iload_n 1, 1) := by decide +kernel
theorem dX3_survives_8 : decode cX3_survives 8 = .ok (.aload_n 0, 1) := by decide +kernel
theorem dX3_survives_9 : decode cX3_survives 9 = .ok (.getfield 147, 3) := by decide +kernel
theorem dX3_survives_12 : decode cX3_survives 12 = .ok (.invokestatic 176, 3) := by decide +kernel
theorem dX3_survives_15 : decode cX3_survives 15 = .ok (.ifCond .eq 7, 3) := by decide +kernel
theorem dX3_survives_18 : decode cX3_survives 18 = .ok (.iconst 1, 1) := by decide +kernel
theorem dX3_survives_19 : decode cX3_survives 19 = .ok (.goto 4, 3) := by decide +kernel
theorem dX3_survives_22 : decode cX3_survives 22 = .ok (.iconst 0, 1) := by decide +kernel
theorem dX3_survives_23 : decode cX3_survives 23 = .ok (.istore_n 3, 1) := by decide +kernel
theorem dX3_survives_24 : decode cX3_survives 24 = .ok (.aload_n 0, 1) := by decide +kernel
theorem dX3_survives_25 : decode cX3_survives 25 = .ok (.getfield 169, 3) := by decide +kernel
theorem dX3_survives_28 : decode cX3_survives 28 = .ok (.ifCond .ne 19, 3) := by decide +kernel
theorem dX3_survives_31 : decode cX3_survives 31 = .ok (.iload_n 3, 1) := by decide +kernel
theorem dX3_survives_32 : decode cX3_survives 32 = .ok (.ifCond .eq 15, 3) := by decide +kernel
theorem dX3_survives_35 : decode cX3_survives 35 = .ok (.aload_n 0, 1) := by decide +kernel
theorem dX3_survives_36 : decode cX3_survives 36 = .ok (.getfield 186, 3) := by decide +kernel
theorem dX3_survives_39 : decode cX3_survives 39 = .ok (.iload_n 2, 1) := by decide +kernel
theorem dX3_survives_40 : decode cX3_survives 40 = .ok (.if_icmp .gt 7, 3) := by decide +kernel
theorem dX3_survives_43 : decode cX3_survives 43 = .ok (.iconst 1, 1) := by decide +kernel
theorem dX3_survives_44 : decode cX3_survives 44 = .ok (.goto 4, 3) := by decide +kernel
theorem dX3_survives_47 : decode cX3_survives 47 = .ok (.iconst 0, 1) := by decide +kernel
theorem dX3_survives_48 : decode cX3_survives 48 = .ok (.ireturn, 1) := by decide +kernel
theorem dX3_linesLost_0 : decode cX3_linesLost 0 = .ok (.aload_n 0, 1) := by decide +kernel
theorem dX3_linesLost_1 : decode cX3_linesLost 1 = .ok (.iconst 0, 1) := by decide +kernel
theorem dX3_linesLost_2 : decode cX3_linesLost 2 = .ok (.invokevirtual 157, 3) := by decide +kernel
theorem dX3_linesLost_5 : decode cX3_linesLost 5 = .ok (.istore_n 1, 1) := by decide +kernel
theorem dX3_linesLost_6 : decode cX3_linesLost 6 = .ok (.iconst 0, 1) := by decide +kernel
theorem dX3_linesLost_7 : decode cX3_linesLost 7 = .ok (.istore_n 2, 1) := by decide +kernel
theorem dX3_linesLost_8 : decode cX3_linesLost 8 = .ok (.iconst 0, 1) := by decide +kernel
theorem dX3_linesLost_9 : decode cX3_linesLost 9 = .ok (.istore_n 3, 1) := by decide +kernel
theorem dX3_linesLost_10 : decode cX3_linesLost 10 = .ok (.iload_n 3, 1) := by decide +kernel
theorem dX3_linesLost_11 : decode cX3_linesLost 11 = .ok (.aload_n 0, 1) := by decide +kernel
theorem dX3_linesLost_12 : decode cX3_linesLost 12 = .ok (.getfield 86, 3) := by decide +kernel
theorem dX3_linesLost_15 : decode cX3_linesLost 15 = .ok (.if_icmp .ge 38, 3) := by decide +kernel
theorem dX3_linesLost_18 : decode cX3_linesLost 18 = .ok (.aload_n 0, 1) := by decide +kernel
theorem dX3_linesLost_19 : decode cX3_linesLost 19 = .ok (.getfield 35, 3) := by decide +kernel
theorem dX3_linesLost_22 : decode cX3_linesLost 22 = .ok (.iload_n 3, 1) := by decide +kernel
theorem dX3_linesLost_23 : decode cX3_linesLost 23 = .ok (.aaload, 1) := by decide +kernel
theorem dX3_linesLost_24 : decode cX3_linesLost 24 = .ok (.getfield 169, 3) := by decide +kernel
theorem dX3_linesLost_27 : decode cX3_linesLost 27 = .ok (.ifCond .ne 20, 3) := by decide +kernel
theorem dX3_linesLost_30 : decode cX3_linesLost 30 = .ok (.aload_n 0, 1) := by decide +kernel
theorem dX3_linesLost_31 : decode cX3_linesLost 31 = .ok (.getfield 35, 3) := by decide +kernel
theorem dX3_linesLost_34 : decode cX3_linesLost 34 = .ok (.iload_n 3, 1) := by decide +kernel
theorem dX3_linesLost_35 : decode cX3_linesLost 35 = .ok (.aaload, 1) := by decide +kernel
theorem dX3_linesLost_36 : decode cX3_linesLost 36 = .ok (.iconst 0, 1) := by decide +kernel
theorem dX3_linesLost_37 : decode cX3_linesLost 37 = .ok (.iload_n 1, 1) := by decide +kernel
theorem dX3_linesLost_38 : decode cX3_linesLost 38 = .ok (.invokestatic 165, 3) := by decide +kernel
theorem dX3_linesLost_41 : decode cX3_linesLost 41 = .ok (.ifCond .ne 6, 3) := by decide +kernel
theorem dX3_linesLost_44 : decode cX3_linesLost 44 = .ok (.iinc 2 1, 3) := by decide +kernel
theorem dX3_linesLost_47 : decode cX3_linesLost 47 = .ok (.iinc 3 1, 3) := by decide +kernel
theorem dX3_linesLost_50 : decode cX3_linesLost 50 = .ok (.goto (-40), 3) := by decide +kernel
theorem dX3_linesLost_53 : decode cX3_linesLost 53 = .ok (.iload_n 2, 1) := by decide +kernel
theorem dX3_linesLost_54 : decode cX3_linesLost 54 = .ok (.ireturn, 1) := by decide +kernel
theorem dX3_recover_0 : decode cX3_recover 0 = .ok (.aload_n 0, 1) := by decide +kernel
theorem dX3_recover_1 : decode cX3_recover 1 = .ok (.iload_n 1, 1) := by decide +kernel
theorem dX3_recover_2 : decode cX3_recover 2 = .ok (.invokevirtual 157, 3) := by decide +kernel
theorem dX3_recover_5 : decode cX3_recover 5 = .ok (.istore 4, 2) := by decide +kernel
theorem dX3_recover_7 : decode cX3_recover 7 = .ok (.aload_n 0, 1) := by decide +kernel
theorem dX3_recover_8 : decode cX3_recover 8 = .ok (.getfield 51, 3) := by decide +kernel
theorem dX3_recover_11 : decode cX3_recover 11 = .ok (.getfield 71, 3) := by decide +kernel
theorem dX3_recover_14 : decode cX3_recover 14 = .ok (.aload_n 2, 1) := by decide +kernel
theorem dX3_recover_15 : decode cX3_recover 15 = .ok (.invokestatic 72, 3) := by decide +kernel
theorem dX3_recover_18 : decode cX3_recover 18 = .ok (.aload_n 3, 1) := by decide +kernel
theorem dX3_recover_19 : decode cX3_recover 19 = .ok (.iconst 0, 1) := by decide +kernel
theorem dX3_recover_20 : decode cX3_recover 20 = .ok (.invokestatic 76, 3) := by decide +kernel
theorem dX3_recover_23 : decode cX3_recover 23 = .ok (.iconst 0, 1) := by decide +kernel
theorem dX3_recover_24 : decode cX3_recover 24 = .ok (.istore 5, 2) := by decide +kernel
theorem dX3_recover_26 : decode cX3_recover 26 = .ok (.iload 5, 2) := by decide +kernel
theorem dX3_recover_28 : decode cX3_recover 28 = .ok (.aload_n 0, 1) := by decide +kernel
theorem dX3_recover_29 : decode cX3_recover 29 = .ok (.getfield 67, 3) := by decide +kernel
theorem dX3_recover_32 : decode cX3_recover 32 = .ok (.if_icmp .ge 70, 3) := by decide +kernel
theorem dX3_recover_35 : decode cX3_recover 35 = .ok (.iconst 0, 1) := by decide +kernel
theorem dX3_recover_36 : decode cX3_recover 36 = .ok (.istore 6, 2) := by decide +kernel
theorem dX3_recover_38 : decode cX3_recover 38 = .ok (.iload 6, 2) := by decide +kernel
theorem dX3_recover_40 : decode cX3_recover 40 = .ok (.aload_n 0, 1) := by decide +kernel
theorem dX3_recover_41 : decode cX3_recover 41 = .ok (.getfield 86, 3) := by decide +kernel
theorem dX3_recover_44 : decode cX3_recover 44 = .ok (.if_icmp .ge 52, 3) := by decide +kernel
theorem dX3_recover_47 : decode cX3_recover 47 = .ok (.aload_n 0, 1) := by decide +kernel
theorem dX3_recover_48 : decode cX3_recover 48 = .ok (.getfield 35, 3) := by decide +kernel
theorem dX3_recover_51 : decode cX3_recover 51 = .ok (.iload 6, 2) := by decide +kernel
theorem dX3_recover_53 : decode cX3_recover 53 = .ok (.aaload, 1) := by decide +kernel
theorem dX3_recover_54 : decode cX3_recover 54 = .ok (.getfield 147, 3) := by decide +kernel
theorem dX3_recover_57 : decode cX3_recover 57 = .ok (.iload 5, 2) := by decide +kernel
theorem dX3_recover_59 : decode cX3_recover 59 = .ok (.if_icmp .ne 31, 3) := by decide +kernel
theorem dX3_recover_62 : decode cX3_recover 62 = .ok (.aload_n 0, 1) := by decide +kernel
theorem dX3_recover_63 : decode cX3_recover 63 = .ok (.getfield 35, 3) := by decide +kernel
theorem dX3_recover_66 : decode cX3_recover 66 = .ok (.iload 6, 2) := by decide +kernel
theorem dX3_recover_68 : decode cX3_recover 68 = .ok (.aaload, 1) := by decide +kernel
theorem dX3_recover_69 : decode cX3_recover 69 = .ok (.iload_n 1, 1) := by decide +kernel
theorem dX3_recover_70 : decode cX3_recover 70 = .ok (.iload 4, 2) := by decide +kernel
theorem dX3_recover_72 : decode cX3_recover 72 = .ok (.invokestatic 165, 3) := by decide +kernel
theorem dX3_recover_75 : decode cX3_recover 75 = .ok (.ifCond .eq 15, 3) := by decide +kernel
theorem dX3_recover_78 : decode cX3_recover 78 = .ok (.aload_n 0, 1) := by decide +kernel
theorem dX3_recover_79 : decode cX3_recover 79 = .ok (.getfield 35, 3) := by decide +kernel
theorem dX3_recover_82 : decode cX3_recover 82 = .ok (.iload 6, 2) := by decide +kernel
theorem dX3_recover_84 : decode cX3_recover 84 = .ok (.aaload, 1) := by decide +kernel
theorem dX3_recover_85 : decode cX3_recover 85 = .ok (.aload_n 2, 1) := by decide +kernel
theorem dX3_recover_86 : decode cX3_recover 86 = .ok (.aload_n 3, 1) := by decide +kernel
theorem dX3_recover_87 : decode cX3_recover 87 = .ok (.invokestatic 187, 3) := by decide +kernel
theorem dX3_recover_90 : decode cX3_recover 90 = .ok (.iinc 6 1, 3) := by decide +kernel
theorem dX3_recover_93 : decode cX3_recover 93 = .ok (.goto (-55), 3) := by decide +kernel
theorem dX3_recover_96 : decode cX3_recover 96 = .ok (.iinc 5 1, 3) := by decide +kernel
theorem dX3_recover_99 : decode cX3_recover 99 = .ok (.goto (-73), 3) := by decide +kernel
theorem dX3_recover_102 : decode cX3_recover 102 = .ok (.return_, 1) := by decide +kernel
theorem dX3_redo_0 : decode cX3_redo 0 = .ok (.iconst 0, 1) := by decide +kernel
theorem dX3_redo_1 : decode cX3_redo 1 = .ok (.istore_n 3, 1) := by decide +kernel
theorem dX3_redo_2 : decode cX3_redo 2 = .ok (.iload_n 3, 1) := by decide +kernel
theorem dX3_redo_3 : decode cX3_redo 3 = .ok (.bipush 10, 2) := by decide +kernel
theorem dX3_redo_5 : decode cX3_redo 5 = .ok (.if_icmp .ge 46, 3) := by decide +kernel
theorem dX3_redo_8 : decode cX3_redo 8 = .ok (.aload_n 0, 1) := by decide +kernel
theorem dX3_redo_9 : decode cX3_redo 9 = .ok (.getfield 191, 3) := by decide +kernel
theorem dX3_redo_12 : decode cX3_redo 12 = .ok (.iload_n 3, 1) := by decide +kernel
theorem dX3_redo_13 : decode cX3_redo 13 = .ok (.invokestatic 176, 3) := by decide +kernel
theorem dX3_redo_16 : decode cX3_redo 16 = .ok (.ifCond .eq 29, 3) := by decide +kernel
theorem dX3_redo_19 : decode cX3_redo 19 = .ok (.aload_n 0, 1) := by decide +kernel
theorem dX3_redo_20 : decode cX3_redo 20 = .ok (.getfield 194, 3) := by decide +kernel
theorem dX3_redo_23 : decode cX3_redo 23 = .ok (.aload_n 2, 1) := by decide +kernel
theorem dX3_redo_24 : decode cX3_redo 24 = .ok (.iload_n 3, 1) := by decide +kernel
theorem dX3_redo_25 : decode cX3_redo 25 = .ok (.iaload, 1) := by decide +kernel
theorem dX3_redo_26 : decode cX3_redo 26 = .ok (.if_icmp .lt 19, 3) := by decide +kernel
theorem dX3_redo_29 : decode cX3_redo 29 = .ok (.aload_n 1, 1) := by decide +kernel
theorem dX3_redo_30 : decode cX3_redo 30 = .ok (.iload_n 3, 1) := by decide +kernel
theorem dX3_redo_31 : decode cX3_redo 31 = .ok (.aload_n 0, 1) := by decide +kernel
theorem dX3_redo_32 : decode cX3_redo 32 = .ok (.getfield 196, 3) := by decide +kernel
theorem dX3_redo_35 : decode cX3_redo 35 = .ok (.iload_n 3, 1) := by decide +kernel
theorem dX3_redo_36 : decode cX3_redo 36 = .ok (.iaload, 1) := by decide +kernel
theorem dX3_redo_37 : decode cX3_redo 37 = .ok (.iastore, 1) := by decide +kernel
theorem dX3_redo_38 : decode cX3_redo 38 = .ok (.aload_n 2, 1) := by decide +kernel
theorem dX3_redo_39 : decode cX3_redo 39 = .ok (.iload_n 3, 1) := by decide +kernel
theorem dX3_redo_40 : decode cX3_redo 40 = .ok (.aload_n 0, 1) := by decide +kernel
theorem dX3_redo_41 : decode cX3_redo 41 = .ok (.getfield 194, 3) := by decide +kernel
theorem dX3_redo_44 : decode cX3_redo 44 = .ok (.iastore, 1) := by decide +kernel
theorem dX3_redo_45 : decode cX3_redo 45 = .ok (.iinc 3 1, 3) := by decide +kernel
theorem dX3_redo_48 : decode cX3_redo 48 = .ok (.goto (-46), 3) := by decide +kernel
theorem dX3_redo_51 : decode cX3_redo 51 = .ok (.return_, 1) := by decide +kernel
theorem dX3_nodeOf_0 : decode cX3_nodeOf 0 = .ok (.aload_n 0, 1) := by decide +kernel
theorem dX3_nodeOf_1 : decode cX3_nodeOf 1 = .ok (.getfield 51, 3) := by decide +kernel
theorem dX3_nodeOf_4 : decode cX3_nodeOf 4 = .ok (.getfield 199, 3) := by decide +kernel
theorem dX3_nodeOf_7 : decode cX3_nodeOf 7 = .ok (.ifCond .le 15, 3) := by decide +kernel
theorem dX3_nodeOf_10 : decode cX3_nodeOf 10 = .ok (.iload_n 1, 1) := by decide +kernel
theorem dX3_nodeOf_11 : decode cX3_nodeOf 11 = .ok (.aload_n 0, 1) := by decide +kernel
theorem dX3_nodeOf_12 : decode cX3_nodeOf 12 = .ok (.getfield 51, 3) := by decide +kernel
theorem dX3_nodeOf_15 : decode cX3_nodeOf 15 = .ok (.getfield 199, 3) := by decide +kernel
theorem dX3_nodeOf_18 : decode cX3_nodeOf 18 = .ok (.idiv, 1) := by decide +kernel
theorem dX3_nodeOf_19 : decode cX3_nodeOf 19 = .ok (.goto 4, 3) := by decide +kernel
theorem dX3_nodeOf_22 : decode cX3_nodeOf 22 = .ok (.iload_n 1, 1) := by decide +kernel
theorem dX3_nodeOf_23 : decode cX3_nodeOf 23 = .ok (.ireturn, 1) := by decide +kernel
theorem dX3_viewOf_0 : decode cX3_viewOf 0 = .ok (.aload_n 1, 1) := by decide +kernel
theorem dX3_viewOf_1 : decode cX3_viewOf 1 = .ok (.getfield 202, 3) := by decide +kernel
theorem dX3_viewOf_4 : decode cX3_viewOf 4 = .ok (.iload_n 2, 1) := by decide +kernel
theorem dX3_viewOf_5 : decode cX3_viewOf 5 = .ok (.ishr, 1) := by decide +kernel
theorem dX3_viewOf_6 : decode cX3_viewOf 6 = .ok (.iconst 1, 1) := by decide +kernel
theorem dX3_viewOf_7 : decode cX3_viewOf 7 = .ok (.iand, 1) := by decide +kernel
theorem dX3_viewOf_8 : decode cX3_viewOf 8 = .ok (.ifCond .eq 12, 3) := by decide +kernel
theorem dX3_viewOf_11 : decode cX3_viewOf 11 = .ok (.aload_n 1, 1) := by decide +kernel
theorem dX3_viewOf_12 : decode cX3_viewOf 12 = .ok (.getfield 203, 3) := by decide +kernel
theorem dX3_viewOf_15 : decode cX3_viewOf 15 = .ok (.iload_n 2, 1) := by decide +kernel
theorem dX3_viewOf_16 : decode cX3_viewOf 16 = .ok (.iaload, 1) := by decide +kernel
theorem dX3_viewOf_17 : decode cX3_viewOf 17 = .ok (.goto 9, 3) := by decide +kernel
theorem dX3_viewOf_20 : decode cX3_viewOf 20 = .ok (.aload_n 0, 1) := by decide +kernel
theorem dX3_viewOf_21 : decode cX3_viewOf 21 = .ok (.getfield 9, 3) := by decide +kernel
theorem dX3_viewOf_24 : decode cX3_viewOf 24 = .ok (.iload_n 2, 1) := by decide +kernel
theorem dX3_viewOf_25 : decode cX3_viewOf 25 = .ok (.iaload, 1) := by decide +kernel
theorem dX3_viewOf_26 : decode cX3_viewOf 26 = .ok (.ireturn, 1) := by decide +kernel
theorem dX3_lookAt_0 : decode cX3_lookAt 0 = .ok (.aload_n 1, 1) := by decide +kernel
theorem dX3_lookAt_1 : decode cX3_lookAt 1 = .ok (.getfield 202, 3) := by decide +kernel
theorem dX3_lookAt_4 : decode cX3_lookAt 4 = .ok (.iload_n 2, 1) := by decide +kernel
theorem dX3_lookAt_5 : decode cX3_lookAt 5 = .ok (.invokestatic 176, 3) := by decide +kernel
theorem dX3_lookAt_8 : decode cX3_lookAt 8 = .ok (.ifCond .ne 46, 3) := by decide +kernel
theorem dX3_lookAt_11 : decode cX3_lookAt 11 = .ok (.aload_n 0, 1) := by decide +kernel
theorem dX3_lookAt_12 : decode cX3_lookAt 12 = .ok (.getfield 9, 3) := by decide +kernel
theorem dX3_lookAt_15 : decode cX3_lookAt 15 = .ok (.iload_n 2, 1) := by decide +kernel
theorem dX3_lookAt_16 : decode cX3_lookAt 16 = .ok (.iaload, 1) := by decide +kernel
theorem dX3_lookAt_17 : decode cX3_lookAt 17 = .ok (.iconst (-1), 1) := by decide +kernel
theorem dX3_lookAt_18 : decode cX3_lookAt 18 = .ok (.if_icmp .eq 17, 3) := by decide +kernel
theorem dX3_lookAt_21 : decode cX3_lookAt 21 = .ok (.aload_n 1, 1) := by decide +kernel
theorem dX3_lookAt_22 : decode cX3_lookAt 22 = .ok (.iload_n 2, 1) := by decide +kernel
theorem dX3_lookAt_23 : decode cX3_lookAt 23 = .ok (.aload_n 0, 1) := by decide +kernel
theorem dX3_lookAt_24 : decode cX3_lookAt 24 = .ok (.getfield 15, 3) := by decide +kernel
theorem dX3_lookAt_27 : decode cX3_lookAt 27 = .ok (.iload_n 2, 1) := by decide +kernel
theorem dX3_lookAt_28 : decode cX3_lookAt 28 = .ok (.iaload, 1) := by decide +kernel
theorem dX3_lookAt_29 : decode cX3_lookAt 29 = .ok (.invokevirtual 204, 3) := by decide +kernel
theorem dX3_lookAt_32 : decode cX3_lookAt 32 = .ok (.goto 22, 3) := by decide +kernel
theorem dX3_lookAt_35 : decode cX3_lookAt 35 = .ok (.aload_n 1, 1) := by decide +kernel
theorem dX3_lookAt_36 : decode cX3_lookAt 36 = .ok (.aload_n 0, 1) := by decide +kernel
theorem dX3_lookAt_37 : decode cX3_lookAt 37 = .ok (.iload_n 2, 1) := by decide +kernel
theorem dX3_lookAt_38 : decode cX3_lookAt 38 = .ok (.invokevirtual 207, 3) := by decide +kernel
theorem dX3_lookAt_41 : decode cX3_lookAt 41 = .ok (.aload_n 0, 1) := by decide +kernel
theorem dX3_lookAt_42 : decode cX3_lookAt 42 = .ok (.getfield 18, 3) := by decide +kernel
theorem dX3_lookAt_45 : decode cX3_lookAt 45 = .ok (.aload_n 0, 1) := by decide +kernel
theorem dX3_lookAt_46 : decode cX3_lookAt 46 = .ok (.iload_n 2, 1) := by decide +kernel
theorem dX3_lookAt_47 : decode cX3_lookAt 47 = .ok (.invokevirtual 207, 3) := by decide +kernel
theorem dX3_lookAt_50 : decode cX3_lookAt 50 = .ok (.iaload, 1) := by decide +kernel
theorem dX3_lookAt_51 : decode cX3_lookAt 51 = .ok (.invokevirtual 210, 3) := by decide +kernel
theorem dX3_lookAt_54 : decode cX3_lookAt 54 = .ok (.aload_n 1, 1) := by decide +kernel
theorem dX3_lookAt_55 : decode cX3_lookAt 55 = .ok (.aload_n 1, 1) := by decide +kernel
theorem dX3_lookAt_56 : decode cX3_lookAt 56 = .ok (.getfield 213, 3) := by decide +kernel
theorem dX3_lookAt_59 : decode cX3_lookAt 59 = .ok (.aload_n 0, 1) := by decide +kernel
theorem dX3_lookAt_60 : decode cX3_lookAt 60 = .ok (.aload_n 1, 1) := by decide +kernel
theorem dX3_lookAt_61 : decode cX3_lookAt 61 = .ok (.iload_n 2, 1) := by decide +kernel
theorem dX3_lookAt_62 : decode cX3_lookAt 62 = .ok (.invokevirtual 216, 3) := by decide +kernel
theorem dX3_lookAt_65 : decode cX3_lookAt 65 = .ok (.iconst 0, 1) := by decide +kernel
theorem dX3_lookAt_66 : decode cX3_lookAt 66 = .ok (.invokestatic 220, 3) := by decide +kernel
theorem dX3_lookAt_69 : decode cX3_lookAt 69 = .ok (.iadd, 1) := by decide +kernel
theorem dX3_lookAt_70 : decode cX3_lookAt 70 = .ok (.bipush 100, 2) := by decide +kernel
theorem dX3_lookAt_72 : decode cX3_lookAt 72 = .ok (.irem, 1) := by decide +kernel
theorem dX3_lookAt_73 : decode cX3_lookAt 73 = .ok (.putfield 213, 3) := by decide +kernel
theorem dX3_lookAt_76 : decode cX3_lookAt 76 = .ok (.return_, 1) := by decide +kernel
theorem dX3_scanKeys_0 : decode cX3_scanKeys 0 = .ok (.aload_n 0, 1) := by decide +kernel
theorem dX3_scanKeys_1 : decode cX3_scanKeys 1 = .ok (.iload_n 2, 1) := by decide +kernel
theorem dX3_scanKeys_2 : decode cX3_scanKeys 2 = .ok (.invokevirtual 207, 3) := by decide +kernel
theorem dX3_scanKeys_5 : decode cX3_scanKeys 5 = .ok (.istore 4, 2) := by decide +kernel
theorem dX3_scanKeys_7 : decode cX3_scanKeys 7 = .ok (.iload 4, 2) := by decide +kernel
theorem dX3_scanKeys_9 : decode cX3_scanKeys 9 = .ok (.aload_n 0, 1) := by decide +kernel
theorem dX3_scanKeys_10 : decode cX3_scanKeys 10 = .ok (.iload_n 3, 1) := by decide +kernel
theorem dX3_scanKeys_11 : decode cX3_scanKeys 11 = .ok (.invokevirtual 207, 3) := by decide +kernel
theorem dX3_scanKeys_14 : decode cX3_scanKeys 14 = .ok (.if_icmp .gt 29, 3) := by decide +kernel
theorem dX3_scanKeys_17 : decode cX3_scanKeys 17 = .ok (.iload 4, 2) := by decide +kernel
theorem dX3_scanKeys_19 : decode cX3_scanKeys 19 = .ok (.bipush 10, 2) := by decide +kernel
theorem dX3_scanKeys_21 : decode cX3_scanKeys 21 = .ok (.if_icmp .ge 22, 3) := by decide +kernel
theorem dX3_scanKeys_24 : decode cX3_scanKeys 24 = .ok (.aload_n 1, 1) := by decide +kernel
theorem dX3_scanKeys_25 : decode cX3_scanKeys 25 = .ok (.iload 4, 2) := by decide +kernel
theorem dX3_scanKeys_27 : decode cX3_scanKeys 27 = .ok (.aload_n 0, 1) := by decide +kernel
theorem dX3_scanKeys_28 : decode cX3_scanKeys 28 = .ok (.getfield 18, 3) := by decide +kernel
theorem dX3_scanKeys_31 : decode cX3_scanKeys 31 = .ok (.iload 4, 2) := by decide +kernel
theorem dX3_scanKeys_33 : decode cX3_scanKeys 33 = .ok (.iaload, 1) := by decide +kernel
theorem dX3_scanKeys_34 : decode cX3_scanKeys 34 = .ok (.invokevirtual 210, 3) := by decide +kernel
theorem dX3_scanKeys_37 : decode cX3_scanKeys 37 = .ok (.iinc 4 1, 3) := by decide +kernel
theorem dX3_scanKeys_40 : decode cX3_scanKeys 40 = .ok (.goto (-33), 3) := by decide +kernel
theorem dX3_scanKeys_43 : decode cX3_scanKeys 43 = .ok (.iload_n 2, 1) := by decide +kernel
theorem dX3_scanKeys_44 : decode cX3_scanKeys 44 = .ok (.istore 4, 2) := by decide +kernel
theorem dX3_scanKeys_46 : decode cX3_scanKeys 46 = .ok (.iload 4, 2) := by decide +kernel
theorem dX3_scanKeys_48 : decode cX3_scanKeys 48 = .ok (.iload_n 3, 1) := by decide +kernel
theorem dX3_scanKeys_49 : decode cX3_scanKeys 49 = .ok (.if_icmp .gt 34, 3) := by decide +kernel
theorem dX3_scanKeys_52 : decode cX3_scanKeys 52 = .ok (.iload 4, 2) := by decide +kernel
theorem dX3_scanKeys_54 : decode cX3_scanKeys 54 = .ok (.bipush 10, 2) := by decide +kernel
theorem dX3_scanKeys_56 : decode cX3_scanKeys 56 = .ok (.if_icmp .ge 27, 3) := by decide +kernel
theorem dX3_scanKeys_59 : decode cX3_scanKeys 59 = .ok (.aload_n 0, 1) := by decide +kernel
theorem dX3_scanKeys_60 : decode cX3_scanKeys 60 = .ok (.aload_n 1, 1) := by decide +kernel
theorem dX3_scanKeys_61 : decode cX3_scanKeys 61 = .ok (.iload 4, 2) := by decide +kernel
theorem dX3_scanKeys_63 : decode cX3_scanKeys 63 = .ok (.invokevirtual 216, 3) := by decide +kernel
theorem dX3_scanKeys_66 : decode cX3_scanKeys 66 = .ok (.iconst (-1), 1) := by decide +kernel
theorem dX3_scanKeys_67 : decode cX3_scanKeys 67 = .ok (.if_icmp .eq 10, 3) := by decide +kernel
theorem dX3_scanKeys_70 : decode cX3_scanKeys 70 = .ok (.aload_n 0, 1) := by decide +kernel
theorem dX3_scanKeys_71 : decode cX3_scanKeys 71 = .ok (.aload_n 1, 1) := by decide +kernel
theorem dX3_scanKeys_72 : decode cX3_scanKeys 72 = .ok (.iload 4, 2) := by decide +kernel
theorem dX3_scanKeys_74 : decode cX3_scanKeys 74 = .ok (.invokevirtual 223, 3) := by decide +kernel
theorem dX3_scanKeys_77 : decode cX3_scanKeys 77 = .ok (.iinc 4 1, 3) := by decide +kernel
theorem dX3_scanKeys_80 : decode cX3_scanKeys 80 = .ok (.goto (-34), 3) := by decide +kernel
theorem dX3_scanKeys_83 : decode cX3_scanKeys 83 = .ok (.return_, 1) := by decide +kernel
theorem dX3_doStep_0 : decode cX3_doStep 0 = .ok (.aload_n 1, 1) := by decide +kernel
theorem dX3_doStep_1 : decode cX3_doStep 1 = .ok (.getfield 132, 3) := by decide +kernel
theorem dX3_doStep_4 : decode cX3_doStep 4 = .ok (.bipush 6, 2) := by decide +kernel
theorem dX3_doStep_6 : decode cX3_doStep 6 = .ok (.imul, 1) := by decide +kernel
theorem dX3_doStep_7 : decode cX3_doStep 7 = .ok (.aload_n 1, 1) := by decide +kernel
theorem dX3_doStep_8 : decode cX3_doStep 8 = .ok (.getfield 115, 3) := by decide +kernel
theorem dX3_doStep_11 : decode cX3_doStep 11 = .ok (.iadd, 1) := by decide +kernel
theorem dX3_doStep_12 : decode cX3_doStep 12 = .ok (.istore_n 2, 1) := by decide +kernel
theorem dX3_doStep_13 : decode cX3_doStep 13 = .ok (.aload_n 0, 1) := by decide +kernel
theorem dX3_doStep_14 : decode cX3_doStep 14 = .ok (.getfield 55, 3) := by decide +kernel
theorem dX3_doStep_17 : decode cX3_doStep 17 = .ok (.getfield 227, 3) := by decide +kernel
theorem dX3_doStep_20 : decode cX3_doStep 20 = .ok (.iload_n 2, 1) := by decide +kernel
theorem dX3_doStep_21 : decode cX3_doStep 21 = .ok (.iaload, 1) := by decide +kernel
theorem dX3_doStep_22 : decode cX3_doStep 22 = .ok (.istore_n 3, 1) := by decide +kernel
theorem dX3_doStep_23 : decode cX3_doStep 23 = .ok (.aload_n 0, 1) := by decide +kernel
theorem dX3_doStep_24 : decode cX3_doStep 24 = .ok (.getfield 55, 3) := by decide +kernel
theorem dX3_doStep_27 : decode cX3_doStep 27 = .ok (.getfield 230, 3) := by decide +kernel
theorem dX3_doStep_30 : decode cX3_doStep 30 = .ok (.iload_n 2, 1) := by decide +kernel
theorem dX3_doStep_31 : decode cX3_doStep 31 = .ok (.iaload, 1) := by decide +kernel
theorem dX3_doStep_32 : decode cX3_doStep 32 = .ok (.istore 4, 2) := by decide +kernel
theorem dX3_doStep_34 : decode cX3_doStep 34 = .ok (.aload_n 0, 1) := by decide +kernel
theorem dX3_doStep_35 : decode cX3_doStep 35 = .ok (.getfield 55, 3) := by decide +kernel
theorem dX3_doStep_38 : decode cX3_doStep 38 = .ok (.getfield 233, 3) := by decide +kernel
theorem dX3_doStep_41 : decode cX3_doStep 41 = .ok (.iload_n 2, 1) := by decide +kernel
theorem dX3_doStep_42 : decode cX3_doStep 42 = .ok (.iaload, 1) := by decide +kernel
theorem dX3_doStep_43 : decode cX3_doStep 43 = .ok (.tableswitch 103 0 4 #[33, 42, 51, 63, 73], 33) := by decide +kernel
theorem dX3_doStep_76 : decode cX3_doStep 76 = .ok (.aload_n 0, 1) := by decide +kernel
theorem dX3_doStep_77 : decode cX3_doStep 77 = .ok (.aload_n 1, 1) := by decide +kernel
theorem dX3_doStep_78 : decode cX3_doStep 78 = .ok (.iload_n 3, 1) := by decide +kernel
theorem dX3_doStep_79 : decode cX3_doStep 79 = .ok (.invokevirtual 223, 3) := by decide +kernel
theorem dX3_doStep_82 : decode cX3_doStep 82 = .ok (.goto 72, 3) := by decide +kernel
theorem dX3_doStep_85 : decode cX3_doStep 85 = .ok (.aload_n 1, 1) := by decide +kernel
theorem dX3_doStep_86 : decode cX3_doStep 86 = .ok (.iload_n 3, 1) := by decide +kernel
theorem dX3_doStep_87 : decode cX3_doStep 87 = .ok (.iconst (-1), 1) := by decide +kernel
theorem dX3_doStep_88 : decode cX3_doStep 88 = .ok (.invokevirtual 236, 3) := by decide +kernel
theorem dX3_doStep_91 : decode cX3_doStep 91 = .ok (.goto 63, 3) := by decide +kernel
theorem dX3_doStep_94 : decode cX3_doStep 94 = .ok (.aload_n 1, 1) := by decide +kernel
theorem dX3_doStep_95 : decode cX3_doStep 95 = .ok (.iload_n 3, 1) := by decide +kernel
theorem dX3_doStep_96 : decode cX3_doStep 96 = .ok (.aload_n 1, 1) := by decide +kernel
theorem dX3_doStep_97 : decode cX3_doStep 97 = .ok (.getfield 213, 3) := by decide +kernel
theorem dX3_doStep_100 : decode cX3_doStep 100 = .ok (.invokevirtual 236, 3) := by decide +kernel
theorem dX3_doStep_103 : decode cX3_doStep 103 = .ok (.goto 51, 3) := by decide +kernel
theorem dX3_doStep_106 : decode cX3_doStep 106 = .ok (.aload_n 1, 1) := by decide +kernel
theorem dX3_doStep_107 : decode cX3_doStep 107 = .ok (.iload_n 3, 1) := by decide +kernel
theorem dX3_doStep_108 : decode cX3_doStep 108 = .ok (.iload 4, 2) := by decide +kernel
theorem dX3_doStep_110 : decode cX3_doStep 110 = .ok (.invokevirtual 236, 3) := by decide +kernel
theorem dX3_doStep_113 : decode cX3_doStep 113 = .ok (.goto 41, 3) := by decide +kernel
theorem dX3_doStep_116 : decode cX3_doStep 116 = .ok (.aload_n 0, 1) := by decide +kernel
theorem dX3_doStep_117 : decode cX3_doStep 117 = .ok (.aload_n 1, 1) := by decide +kernel
theorem dX3_doStep_118 : decode cX3_doStep 118 = .ok (.iload_n 3, 1) := by decide +kernel
theorem dX3_doStep_119 : decode cX3_doStep 119 = .ok (.invokevirtual 223, 3) := by decide +kernel
theorem dX3_doStep_122 : decode cX3_doStep 122 = .ok (.aload_n 1, 1) := by decide +kernel
theorem dX3_doStep_123 : decode cX3_doStep 123 = .ok (.iload_n 3, 1) := by decide +kernel
theorem dX3_doStep_124 : decode cX3_doStep 124 = .ok (.aload_n 0, 1) := by decide +kernel
theorem dX3_doStep_125 : decode cX3_doStep 125 = .ok (.aload_n 1, 1) := by decide +kernel
theorem dX3_doStep_126 : decode cX3_doStep 126 = .ok (.iload_n 3, 1) := by decide +kernel
theorem dX3_doStep_127 : decode cX3_doStep 127 = .ok (.invokevirtual 216, 3) := by decide +kernel
theorem dX3_doStep_130 : decode cX3_doStep 130 = .ok (.iconst 0, 1) := by decide +kernel
theorem dX3_doStep_131 : decode cX3_doStep 131 = .ok (.invokestatic 220, 3) := by decide +kernel
theorem dX3_doStep_134 : decode cX3_doStep 134 = .ok (.iload 4, 2) := by decide +kernel
theorem dX3_doStep_136 : decode cX3_doStep 136 = .ok (.iadd, 1) := by decide +kernel
theorem dX3_doStep_137 : decode cX3_doStep 137 = .ok (.bipush 100, 2) := by decide +kernel
theorem dX3_doStep_139 : decode cX3_doStep 139 = .ok (.irem, 1) := by decide +kernel
theorem dX3_doStep_140 : decode cX3_doStep 140 = .ok (.invokevirtual 236, 3) := by decide +kernel
theorem dX3_doStep_143 : decode cX3_doStep 143 = .ok (.goto 11, 3) := by decide +kernel
theorem dX3_doStep_146 : decode cX3_doStep 146 = .ok (.aload_n 0, 1) := by decide +kernel
theorem dX3_doStep_147 : decode cX3_doStep 147 = .ok (.aload_n 1, 1) := by decide +kernel
theorem dX3_doStep_148 : decode cX3_doStep 148 = .ok (.iload_n 3, 1) := by decide +kernel
theorem dX3_doStep_149 : decode cX3_doStep 149 = .ok (.iload 4, 2) := by decide +kernel
theorem dX3_doStep_151 : decode cX3_doStep 151 = .ok (.invokevirtual 239, 3) := by decide +kernel
theorem dX3_doStep_154 : decode cX3_doStep 154 = .ok (.aload_n 1, 1) := by decide +kernel
theorem dX3_doStep_155 : decode cX3_doStep 155 = .ok (.dup, 1) := by decide +kernel
theorem dX3_doStep_156 : decode cX3_doStep 156 = .ok (.getfield 115, 3) := by decide +kernel
theorem dX3_doStep_159 : decode cX3_doStep 159 = .ok (.iconst 1, 1) := by decide +kernel
theorem dX3_doStep_160 : decode cX3_doStep 160 = .ok (.iadd, 1) := by decide +kernel
theorem dX3_doStep_161 : decode cX3_doStep 161 = .ok (.putfield 115, 3) := by decide +kernel
theorem dX3_doStep_164 : decode cX3_doStep 164 = .ok (.return_, 1) := by decide +kernel
theorem dX3_staleKey_0 : decode cX3_staleKey 0 = .ok (.iconst 0, 1) := by decide +kernel
theorem dX3_staleKey_1 : decode cX3_staleKey 1 = .ok (.istore_n 2, 1) := by decide +kernel
theorem dX3_staleKey_2 : decode cX3_staleKey 2 = .ok (.iload_n 2, 1) := by decide +kernel
theorem dX3_staleKey_3 : decode cX3_staleKey 3 = .ok (.bipush 10, 2) := by decide +kernel
theorem dX3_staleKey_5 : decode cX3_staleKey 5 = .ok (.if_icmp .ge 47, 3) := by decide +kernel
theorem dX3_staleKey_8 : decode cX3_staleKey 8 = .ok (.aload_n 1, 1) := by decide +kernel
theorem dX3_staleKey_9 : decode cX3_staleKey 9 = .ok (.getfield 243, 3) := by decide +kernel
theorem dX3_staleKey_12 : decode cX3_staleKey 12 = .ok (.iload_n 2, 1) := by decide +kernel
theorem dX3_staleKey_13 : decode cX3_staleKey 13 = .ok (.invokestatic 176, 3) := by decide +kernel
theorem dX3_staleKey_16 : decode cX3_staleKey 16 = .ok (.ifCond .eq 30, 3) := by decide +kernel
theorem dX3_staleKey_19 : decode cX3_staleKey 19 = .ok (.aload_n 0, 1) := by decide +kernel
theorem dX3_staleKey_20 : decode cX3_staleKey 20 = .ok (.getfield 9, 3) := by decide +kernel
theorem dX3_staleKey_23 : decode cX3_staleKey 23 = .ok (.iload_n 2, 1) := by decide +kernel
theorem dX3_staleKey_24 : decode cX3_staleKey 24 = .ok (.iaload, 1) := by decide +kernel
theorem dX3_staleKey_25 : decode cX3_staleKey 25 = .ok (.iconst (-1), 1) := by decide +kernel
theorem dX3_staleKey_26 : decode cX3_staleKey 26 = .ok (.if_icmp .eq 18, 3) := by decide +kernel
theorem dX3_staleKey_29 : decode cX3_staleKey 29 = .ok (.aload_n 0, 1) := by decide +kernel
theorem dX3_staleKey_30 : decode cX3_staleKey 30 = .ok (.getfield 15, 3) := by decide +kernel
theorem dX3_staleKey_33 : decode cX3_staleKey 33 = .ok (.iload_n 2, 1) := by decide +kernel
theorem dX3_staleKey_34 : decode cX3_staleKey 34 = .ok (.iaload, 1) := by decide +kernel
theorem dX3_staleKey_35 : decode cX3_staleKey 35 = .ok (.aload_n 1, 1) := by decide +kernel
theorem dX3_staleKey_36 : decode cX3_staleKey 36 = .ok (.getfield 246, 3) := by decide +kernel
theorem dX3_staleKey_39 : decode cX3_staleKey 39 = .ok (.iload_n 2, 1) := by decide +kernel
theorem dX3_staleKey_40 : decode cX3_staleKey 40 = .ok (.iaload, 1) := by decide +kernel
theorem dX3_staleKey_41 : decode cX3_staleKey 41 = .ok (.if_icmp .eq 5, 3) := by decide +kernel
theorem dX3_staleKey_44 : decode cX3_staleKey 44 = .ok (.iload_n 2, 1) := by decide +kernel
theorem dX3_staleKey_45 : decode cX3_staleKey 45 = .ok (.ireturn, 1) := by decide +kernel
theorem dX3_staleKey_46 : decode cX3_staleKey 46 = .ok (.iinc 2 1, 3) := by decide +kernel
theorem dX3_staleKey_49 : decode cX3_staleKey 49 = .ok (.goto (-47), 3) := by decide +kernel
theorem dX3_staleKey_52 : decode cX3_staleKey 52 = .ok (.iconst (-1), 1) := by decide +kernel
theorem dX3_staleKey_53 : decode cX3_staleKey 53 = .ok (.ireturn, 1) := by decide +kernel
theorem dX3_phantomNode_0 : decode cX3_phantomNode 0 = .ok (.iconst 0, 1) := by decide +kernel
theorem dX3_phantomNode_1 : decode cX3_phantomNode 1 = .ok (.istore_n 2, 1) := by decide +kernel
theorem dX3_phantomNode_2 : decode cX3_phantomNode 2 = .ok (.iload_n 2, 1) := by decide +kernel
theorem dX3_phantomNode_3 : decode cX3_phantomNode 3 = .ok (.bipush 10, 2) := by decide +kernel
theorem dX3_phantomNode_5 : decode cX3_phantomNode 5 = .ok (.if_icmp .ge 37, 3) := by decide +kernel
theorem dX3_phantomNode_8 : decode cX3_phantomNode 8 = .ok (.aload_n 1, 1) := by decide +kernel
theorem dX3_phantomNode_9 : decode cX3_phantomNode 9 = .ok (.getfield 249, 3) := by decide +kernel
theorem dX3_phantomNode_12 : decode cX3_phantomNode 12 = .ok (.iload_n 2, 1) := by decide +kernel
theorem dX3_phantomNode_13 : decode cX3_phantomNode 13 = .ok (.invokestatic 176, 3) := by decide +kernel
theorem dX3_phantomNode_16 : decode cX3_phantomNode 16 = .ok (.ifCond .eq 20, 3) := by decide +kernel
theorem dX3_phantomNode_19 : decode cX3_phantomNode 19 = .ok (.aload_n 0, 1) := by decide +kernel
theorem dX3_phantomNode_20 : decode cX3_phantomNode 20 = .ok (.getfield 18, 3) := by decide +kernel
theorem dX3_phantomNode_23 : decode cX3_phantomNode 23 = .ok (.iload_n 2, 1) := by decide +kernel
theorem dX3_phantomNode_24 : decode cX3_phantomNode 24 = .ok (.iaload, 1) := by decide +kernel
theorem dX3_phantomNode_25 : decode cX3_phantomNode 25 = .ok (.aload_n 1, 1) := by decide +kernel
theorem dX3_phantomNode_26 : decode cX3_phantomNode 26 = .ok (.getfield 252, 3) := by decide +kernel
theorem dX3_phantomNode_29 : decode cX3_phantomNode 29 = .ok (.iload_n 2, 1) := by decide +kernel
theorem dX3_phantomNode_30 : decode cX3_phantomNode 30 = .ok (.iaload, 1) := by decide +kernel
theorem dX3_phantomNode_31 : decode cX3_phantomNode 31 = .ok (.if_icmp .eq 5, 3) := by decide +kernel
theorem dX3_phantomNode_34 : decode cX3_phantomNode 34 = .ok (.iload_n 2, 1) := by decide +kernel
theorem dX3_phantomNode_35 : decode cX3_phantomNode 35 = .ok (.ireturn, 1) := by decide +kernel
theorem dX3_phantomNode_36 : decode cX3_phantomNode 36 = .ok (.iinc 2 1, 3) := by decide +kernel
theorem dX3_phantomNode_39 : decode cX3_phantomNode 39 = .ok (.goto (-37), 3) := by decide +kernel
theorem dX3_phantomNode_42 : decode cX3_phantomNode 42 = .ok (.iconst (-1), 1) := by decide +kernel
theorem dX3_phantomNode_43 : decode cX3_phantomNode 43 = .ok (.ireturn, 1) := by decide +kernel
theorem dX3_tryCommit_0 : decode cX3_tryCommit 0 = .ok (.aload_n 0, 1) := by decide +kernel
theorem dX3_tryCommit_1 : decode cX3_tryCommit 1 = .ok (.getfield 29, 3) := by decide +kernel
theorem dX3_tryCommit_4 : decode cX3_tryCommit 4 = .ok (.iload_n 1, 1) := by decide +kernel
theorem dX3_tryCommit_5 : decode cX3_tryCommit 5 = .ok (.aaload, 1) := by decide +kernel
theorem dX3_tryCommit_6 : decode cX3_tryCommit 6 = .ok (.astore_n 2, 1) := by decide +kernel
theorem dX3_tryCommit_7 : decode cX3_tryCommit 7 = .ok (.aload_n 0, 1) := by decide +kernel
theorem dX3_tryCommit_8 : decode cX3_tryCommit 8 = .ok (.aload_n 2, 1) := by decide +kernel
theorem dX3_tryCommit_9 : decode cX3_tryCommit 9 = .ok (.invokevirtual 255, 3) := by decide +kernel
theorem dX3_tryCommit_12 : decode cX3_tryCommit 12 = .ok (.istore_n 3, 1) := by decide +kernel
theorem dX3_tryCommit_13 : decode cX3_tryCommit 13 = .ok (.aload_n 0, 1) := by decide +kernel
theorem dX3_tryCommit_14 : decode cX3_tryCommit 14 = .ok (.aload_n 2, 1) := by decide +kernel
theorem dX3_tryCommit_15 : decode cX3_tryCommit 15 = .ok (.invokevirtual 259, 3) := by decide +kernel
theorem dX3_tryCommit_18 : decode cX3_tryCommit 18 = .ok (.istore 4, 2) := by decide +kernel
theorem dX3_tryCommit_20 : decode cX3_tryCommit 20 = .ok (.iload_n 3, 1) := by decide +kernel
theorem dX3_tryCommit_21 : decode cX3_tryCommit 21 = .ok (.iconst (-1), 1) := by decide +kernel
theorem dX3_tryCommit_22 : decode cX3_tryCommit 22 = .ok (.if_icmp .eq 19, 3) := by decide +kernel
theorem dX3_tryCommit_25 : decode cX3_tryCommit 25 = .ok (.aload_n 0, 1) := by decide +kernel
theorem dX3_tryCommit_26 : decode cX3_tryCommit 26 = .ok (.aload_n 2, 1) := by decide +kernel
theorem dX3_tryCommit_27 : decode cX3_tryCommit 27 = .ok (.iconst 2, 1) := by decide +kernel
theorem dX3_tryCommit_28 : decode cX3_tryCommit 28 = .ok (.iload_n 3, 1) := by decide +kernel
theorem dX3_tryCommit_29 : decode cX3_tryCommit 29 = .ok (.aload_n 0, 1) := by decide +kernel
theorem dX3_tryCommit_30 : decode cX3_tryCommit 30 = .ok (.getfield 21, 3) := by decide +kernel
theorem dX3_tryCommit_33 : decode cX3_tryCommit 33 = .ok (.iload_n 3, 1) := by decide +kernel
theorem dX3_tryCommit_34 : decode cX3_tryCommit 34 = .ok (.iaload, 1) := by decide +kernel
theorem dX3_tryCommit_35 : decode cX3_tryCommit 35 = .ok (.invokevirtual 262, 3) := by decide +kernel
theorem dX3_tryCommit_38 : decode cX3_tryCommit 38 = .ok (.goto 32, 3) := by decide +kernel
theorem dX3_tryCommit_41 : decode cX3_tryCommit 41 = .ok (.iload 4, 2) := by decide +kernel
theorem dX3_tryCommit_43 : decode cX3_tryCommit 43 = .ok (.iconst (-1), 1) := by decide +kernel
theorem dX3_tryCommit_44 : decode cX3_tryCommit 44 = .ok (.if_icmp .eq 21, 3) := by decide +kernel
theorem dX3_tryCommit_47 : decode cX3_tryCommit 47 = .ok (.aload_n 0, 1) := by decide +kernel
theorem dX3_tryCommit_48 : decode cX3_tryCommit 48 = .ok (.aload_n 2, 1) := by decide +kernel
theorem dX3_tryCommit_49 : decode cX3_tryCommit 49 = .ok (.iconst 3, 1) := by decide +kernel
theorem dX3_tryCommit_50 : decode cX3_tryCommit 50 = .ok (.iload 4, 2) := by decide +kernel
theorem dX3_tryCommit_52 : decode cX3_tryCommit 52 = .ok (.aload_n 0, 1) := by decide +kernel
theorem dX3_tryCommit_53 : decode cX3_tryCommit 53 = .ok (.getfield 24, 3) := by decide +kernel
theorem dX3_tryCommit_56 : decode cX3_tryCommit 56 = .ok (.iload 4, 2) := by decide +kernel
theorem dX3_tryCommit_58 : decode cX3_tryCommit 58 = .ok (.iaload, 1) := by decide +kernel
theorem dX3_tryCommit_59 : decode cX3_tryCommit 59 = .ok (.invokevirtual 262, 3) := by decide +kernel
theorem dX3_tryCommit_62 : decode cX3_tryCommit 62 = .ok (.goto 8, 3) := by decide +kernel
theorem dX3_tryCommit_65 : decode cX3_tryCommit 65 = .ok (.aload_n 0, 1) := by decide +kernel
theorem dX3_tryCommit_66 : decode cX3_tryCommit 66 = .ok (.iload_n 1, 1) := by decide +kernel
theorem dX3_tryCommit_67 : decode cX3_tryCommit 67 = .ok (.invokevirtual 266, 3) := by decide +kernel
theorem dX3_tryCommit_70 : decode cX3_tryCommit 70 = .ok (.aload_n 2, 1) := by decide +kernel
theorem dX3_tryCommit_71 : decode cX3_tryCommit 71 = .ok (.invokevirtual 118, 3) := by decide +kernel
theorem dX3_tryCommit_74 : decode cX3_tryCommit 74 = .ok (.return_, 1) := by decide +kernel
theorem dX3_noteRefusal_0 : decode cX3_noteRefusal 0 = .ok (.aload_n 0, 1) := by decide +kernel
theorem dX3_noteRefusal_1 : decode cX3_noteRefusal 1 = .ok (.getfield 39, 3) := by decide +kernel
theorem dX3_noteRefusal_4 : decode cX3_noteRefusal 4 = .ok (.aload_n 0, 1) := by decide +kernel
theorem dX3_noteRefusal_5 : decode cX3_noteRefusal 5 = .ok (.getfield 89, 3) := by decide +kernel
theorem dX3_noteRefusal_8 : decode cX3_noteRefusal 8 = .ok (.iload_n 2, 1) := by decide +kernel
theorem dX3_noteRefusal_9 : decode cX3_noteRefusal 9 = .ok (.iastore, 1) := by decide +kernel
theorem dX3_noteRefusal_10 : decode cX3_noteRefusal 10 = .ok (.aload_n 0, 1) := by decide +kernel
theorem dX3_noteRefusal_11 : decode cX3_noteRefusal 11 = .ok (.getfield 42, 3) := by decide +kernel
theorem dX3_noteRefusal_14 : decode cX3_noteRefusal 14 = .ok (.aload_n 0, 1) := by decide +kernel
theorem dX3_noteRefusal_15 : decode cX3_noteRefusal 15 = .ok (.getfield 89, 3) := by decide +kernel
theorem dX3_noteRefusal_18 : decode cX3_noteRefusal 18 = .ok (.iload_n 3, 1) := by decide +kernel
theorem dX3_noteRefusal_19 : decode cX3_noteRefusal 19 = .ok (.iastore, 1) := by decide +kernel
theorem dX3_noteRefusal_20 : decode cX3_noteRefusal 20 = .ok (.aload_n 0, 1) := by decide +kernel
theorem dX3_noteRefusal_21 : decode cX3_noteRefusal 21 = .ok (.getfield 45, 3) := by decide +kernel
theorem dX3_noteRefusal_24 : decode cX3_noteRefusal 24 = .ok (.aload_n 0, 1) := by decide +kernel
theorem dX3_noteRefusal_25 : decode cX3_noteRefusal 25 = .ok (.getfield 89, 3) := by decide +kernel
theorem dX3_noteRefusal_28 : decode cX3_noteRefusal 28 = .ok (.iload 4, 2) := by decide +kernel
theorem dX3_noteRefusal_30 : decode cX3_noteRefusal 30 = .ok (.iastore, 1) := by decide +kernel
theorem dX3_noteRefusal_31 : decode cX3_noteRefusal 31 = .ok (.aload_n 0, 1) := by decide +kernel
theorem dX3_noteRefusal_32 : decode cX3_noteRefusal 32 = .ok (.dup, 1) := by decide +kernel
theorem dX3_noteRefusal_33 : decode cX3_noteRefusal 33 = .ok (.getfield 92, 3) := by decide +kernel
theorem dX3_noteRefusal_36 : decode cX3_noteRefusal 36 = .ok (.aload_n 1, 1) := by decide +kernel
theorem dX3_noteRefusal_37 : decode cX3_noteRefusal 37 = .ok (.getfield 115, 3) := by decide +kernel
theorem dX3_noteRefusal_40 : decode cX3_noteRefusal 40 = .ok (.iadd, 1) := by decide +kernel
theorem dX3_noteRefusal_41 : decode cX3_noteRefusal 41 = .ok (.putfield 92, 3) := by decide +kernel
theorem dX3_noteRefusal_44 : decode cX3_noteRefusal 44 = .ok (.return_, 1) := by decide +kernel
theorem dX3_makeCommit_0 : decode cX3_makeCommit 0 = .ok (.aload_n 0, 1) := by decide +kernel
theorem dX3_makeCommit_1 : decode cX3_makeCommit 1 = .ok (.getfield 29, 3) := by decide +kernel
theorem dX3_makeCommit_4 : decode cX3_makeCommit 4 = .ok (.iload_n 1, 1) := by decide +kernel
theorem dX3_makeCommit_5 : decode cX3_makeCommit 5 = .ok (.aaload, 1) := by decide +kernel
theorem dX3_makeCommit_6 : decode cX3_makeCommit 6 = .ok (.astore_n 2, 1) := by decide +kernel
theorem dX3_makeCommit_7 : decode cX3_makeCommit 7 = .ok (.aload_n 0, 1) := by decide +kernel
theorem dX3_makeCommit_8 : decode cX3_makeCommit 8 = .ok (.aload_n 2, 1) := by decide +kernel
theorem dX3_makeCommit_9 : decode cX3_makeCommit 9 = .ok (.invokevirtual 269, 3) := by decide +kernel
theorem dX3_makeCommit_12 : decode cX3_makeCommit 12 = .ok (.istore_n 3, 1) := by decide +kernel
theorem dX3_makeCommit_13 : decode cX3_makeCommit 13 = .ok (.aload_n 0, 1) := by decide +kernel
theorem dX3_makeCommit_14 : decode cX3_makeCommit 14 = .ok (.getfield 39, 3) := by decide +kernel
theorem dX3_makeCommit_17 : decode cX3_makeCommit 17 = .ok (.aload_n 0, 1) := by decide +kernel
theorem dX3_makeCommit_18 : decode cX3_makeCommit 18 = .ok (.getfield 89, 3) := by decide +kernel
theorem dX3_makeCommit_21 : decode cX3_makeCommit 21 = .ok (.iconst 1, 1) := by decide +kernel
theorem dX3_makeCommit_22 : decode cX3_makeCommit 22 = .ok (.iastore, 1) := by decide +kernel
theorem dX3_makeCommit_23 : decode cX3_makeCommit 23 = .ok (.aload_n 0, 1) := by decide +kernel
theorem dX3_makeCommit_24 : decode cX3_makeCommit 24 = .ok (.getfield 48, 3) := by decide +kernel
theorem dX3_makeCommit_27 : decode cX3_makeCommit 27 = .ok (.aload_n 0, 1) := by decide +kernel
theorem dX3_makeCommit_28 : decode cX3_makeCommit 28 = .ok (.getfield 89, 3) := by decide +kernel
theorem dX3_makeCommit_31 : decode cX3_makeCommit 31 = .ok (.iload_n 3, 1) := by decide +kernel
theorem dX3_makeCommit_32 : decode cX3_makeCommit 32 = .ok (.iastore, 1) := by decide +kernel
theorem dX3_makeCommit_33 : decode cX3_makeCommit 33 = .ok (.aload_n 2, 1) := by decide +kernel
theorem dX3_makeCommit_34 : decode cX3_makeCommit 34 = .ok (.iload_n 3, 1) := by decide +kernel
theorem dX3_makeCommit_35 : decode cX3_makeCommit 35 = .ok (.putfield 272, 3) := by decide +kernel
theorem dX3_makeCommit_38 : decode cX3_makeCommit 38 = .ok (.aload_n 0, 1) := by decide +kernel
theorem dX3_makeCommit_39 : decode cX3_makeCommit 39 = .ok (.aload_n 2, 1) := by decide +kernel
theorem dX3_makeCommit_40 : decode cX3_makeCommit 40 = .ok (.iload_n 3, 1) := by decide +kernel
theorem dX3_makeCommit_41 : decode cX3_makeCommit 41 = .ok (.invokevirtual 275, 3) := by decide +kernel
theorem dX3_makeCommit_44 : decode cX3_makeCommit 44 = .ok (.istore 4, 2) := by decide +kernel
theorem dX3_makeCommit_46 : decode cX3_makeCommit 46 = .ok (.aload_n 0, 1) := by decide +kernel
theorem dX3_makeCommit_47 : decode cX3_makeCommit 47 = .ok (.getfield 86, 3) := by decide +kernel
theorem dX3_makeCommit_50 : decode cX3_makeCommit 50 = .ok (.bipush 30, 2) := by decide +kernel
theorem dX3_makeCommit_52 : decode cX3_makeCommit 52 = .ok (.if_icmp .lt 4, 3) := by decide +kernel
theorem dX3_makeCommit_55 : decode cX3_makeCommit 55 = .ok (.return_, 1) := by decide +kernel
theorem dX3_makeCommit_56 : decode cX3_makeCommit 56 = .ok (.aload_n 0, 1) := by decide +kernel
theorem dX3_makeCommit_57 : decode cX3_makeCommit 57 = .ok (.getfield 35, 3) := by decide +kernel
theorem dX3_makeCommit_60 : decode cX3_makeCommit 60 = .ok (.aload_n 0, 1) := by decide +kernel
theorem dX3_makeCommit_61 : decode cX3_makeCommit 61 = .ok (.getfield 86, 3) := by decide +kernel
theorem dX3_makeCommit_64 : decode cX3_makeCommit 64 = .ok (.aaload, 1) := by decide +kernel
theorem dX3_makeCommit_65 : decode cX3_makeCommit 65 = .ok (.astore 5, 2) := by decide +kernel
theorem dX3_makeCommit_67 : decode cX3_makeCommit 67 = .ok (.aload 5, 2) := by decide +kernel
theorem dX3_makeCommit_69 : decode cX3_makeCommit 69 = .ok (.iload_n 1, 1) := by decide +kernel
theorem dX3_makeCommit_70 : decode cX3_makeCommit 70 = .ok (.putfield 147, 3) := by decide +kernel
theorem dX3_makeCommit_73 : decode cX3_makeCommit 73 = .ok (.aload 5, 2) := by decide +kernel
theorem dX3_makeCommit_75 : decode cX3_makeCommit 75 = .ok (.aload_n 2, 1) := by decide +kernel
theorem dX3_makeCommit_76 : decode cX3_makeCommit 76 = .ok (.getfield 132, 3) := by decide +kernel
theorem dX3_makeCommit_79 : decode cX3_makeCommit 79 = .ok (.putfield 278, 3) := by decide +kernel
theorem dX3_makeCommit_82 : decode cX3_makeCommit 82 = .ok (.aload 5, 2) := by decide +kernel
theorem dX3_makeCommit_84 : decode cX3_makeCommit 84 = .ok (.aload_n 0, 1) := by decide +kernel
theorem dX3_makeCommit_85 : decode cX3_makeCommit 85 = .ok (.getfield 68, 3) := by decide +kernel
theorem dX3_makeCommit_88 : decode cX3_makeCommit 88 = .ok (.putfield 186, 3) := by decide +kernel
theorem dX3_makeCommit_91 : decode cX3_makeCommit 91 = .ok (.aload 5, 2) := by decide +kernel
theorem dX3_makeCommit_93 : decode cX3_makeCommit 93 = .ok (.iload_n 3, 1) := by decide +kernel
theorem dX3_makeCommit_94 : decode cX3_makeCommit 94 = .ok (.putfield 194, 3) := by decide +kernel
theorem dX3_makeCommit_97 : decode cX3_makeCommit 97 = .ok (.aload 5, 2) := by decide +kernel
theorem dX3_makeCommit_99 : decode cX3_makeCommit 99 = .ok (.aload_n 2, 1) := by decide +kernel
theorem dX3_makeCommit_100 : decode cX3_makeCommit 100 = .ok (.getfield 243, 3) := by decide +kernel
theorem dX3_makeCommit_103 : decode cX3_makeCommit 103 = .ok (.putfield 279, 3) := by decide +kernel
theorem dX3_makeCommit_106 : decode cX3_makeCommit 106 = .ok (.aload 5, 2) := by decide +kernel
theorem dX3_makeCommit_108 : decode cX3_makeCommit 108 = .ok (.aload_n 2, 1) := by decide +kernel
theorem dX3_makeCommit_109 : decode cX3_makeCommit 109 = .ok (.getfield 249, 3) := by decide +kernel
theorem dX3_makeCommit_112 : decode cX3_makeCommit 112 = .ok (.putfield 280, 3) := by decide +kernel
theorem dX3_makeCommit_115 : decode cX3_makeCommit 115 = .ok (.aload 5, 2) := by decide +kernel
theorem dX3_makeCommit_117 : decode cX3_makeCommit 117 = .ok (.aload_n 2, 1) := by decide +kernel
theorem dX3_makeCommit_118 : decode cX3_makeCommit 118 = .ok (.getfield 202, 3) := by decide +kernel
theorem dX3_makeCommit_121 : decode cX3_makeCommit 121 = .ok (.putfield 191, 3) := by decide +kernel
theorem dX3_makeCommit_124 : decode cX3_makeCommit 124 = .ok (.aload 5, 2) := by decide +kernel
theorem dX3_makeCommit_126 : decode cX3_makeCommit 126 = .ok (.iload 4, 2) := by decide +kernel
theorem dX3_makeCommit_128 : decode cX3_makeCommit 128 = .ok (.putfield 281, 3) := by decide +kernel
theorem dX3_makeCommit_131 : decode cX3_makeCommit 131 = .ok (.aload 5, 2) := by decide +kernel
theorem dX3_makeCommit_133 : decode cX3_makeCommit 133 = .ok (.iconst 0, 1) := by decide +kernel
theorem dX3_makeCommit_134 : decode cX3_makeCommit 134 = .ok (.putfield 150, 3) := by decide +kernel
theorem dX3_makeCommit_137 : decode cX3_makeCommit 137 = .ok (.aload 5, 2) := by decide +kernel
theorem dX3_makeCommit_139 : decode cX3_makeCommit 139 = .ok (.iconst 0, 1) := by decide +kernel
theorem dX3_makeCommit_140 : decode cX3_makeCommit 140 = .ok (.putfield 169, 3) := by decide +kernel
theorem dX3_makeCommit_143 : decode cX3_makeCommit 143 = .ok (.aload_n 2, 1) := by decide +kernel
theorem dX3_makeCommit_144 : decode cX3_makeCommit 144 = .ok (.getfield 203, 3) := by decide +kernel
theorem dX3_makeCommit_147 : decode cX3_makeCommit 147 = .ok (.aload 5, 2) := by decide +kernel
theorem dX3_makeCommit_149 : decode cX3_makeCommit 149 = .ok (.getfield 196, 3) := by decide +kernel
theorem dX3_makeCommit_152 : decode cX3_makeCommit 152 = .ok (.invokestatic 72, 3) := by decide +kernel
theorem dX3_makeCommit_155 : decode cX3_makeCommit 155 = .ok (.aload_n 0, 1) := by decide +kernel
theorem dX3_makeCommit_156 : decode cX3_makeCommit 156 = .ok (.dup, 1) := by decide +kernel
theorem dX3_makeCommit_157 : decode cX3_makeCommit 157 = .ok (.getfield 86, 3) := by decide +kernel
theorem dX3_makeCommit_160 : decode cX3_makeCommit 160 = .ok (.iconst 1, 1) := by decide +kernel
theorem dX3_makeCommit_161 : decode cX3_makeCommit 161 = .ok (.iadd, 1) := by decide +kernel
theorem dX3_makeCommit_162 : decode cX3_makeCommit 162 = .ok (.putfield 86, 3) := by decide +kernel
theorem dX3_makeCommit_165 : decode cX3_makeCommit 165 = .ok (.return_, 1) := by decide +kernel
theorem dX3_nextStamp_0 : decode cX3_nextStamp 0 = .ok (.aload_n 1, 1) := by decide +kernel
theorem dX3_nextStamp_1 : decode cX3_nextStamp 1 = .ok (.getfield 272, 3) := by decide +kernel
theorem dX3_nextStamp_4 : decode cX3_nextStamp 4 = .ok (.bipush 100, 2) := by decide +kernel
theorem dX3_nextStamp_6 : decode cX3_nextStamp 6 = .ok (.aload_n 0, 1) := by decide +kernel
theorem dX3_nextStamp_7 : decode cX3_nextStamp 7 = .ok (.getfield 68, 3) := by decide +kernel
theorem dX3_nextStamp_10 : decode cX3_nextStamp 10 = .ok (.imul, 1) := by decide +kernel
theorem dX3_nextStamp_11 : decode cX3_nextStamp 11 = .ok (.invokestatic 220, 3) := by decide +kernel
theorem dX3_nextStamp_14 : decode cX3_nextStamp 14 = .ok (.istore_n 2, 1) := by decide +kernel
theorem dX3_nextStamp_15 : decode cX3_nextStamp 15 = .ok (.iconst 0, 1) := by decide +kernel
theorem dX3_nextStamp_16 : decode cX3_nextStamp 16 = .ok (.istore_n 3, 1) := by decide +kernel
theorem dX3_nextStamp_17 : decode cX3_nextStamp 17 = .ok (.iload_n 3, 1) := by decide +kernel
theorem dX3_nextStamp_18 : decode cX3_nextStamp 18 = .ok (.bipush 10, 2) := by decide +kernel
theorem dX3_nextStamp_20 : decode cX3_nextStamp 20 = .ok (.if_icmp .ge 36, 3) := by decide +kernel
theorem dX3_nextStamp_23 : decode cX3_nextStamp 23 = .ok (.aload_n 1, 1) := by decide +kernel
theorem dX3_nextStamp_24 : decode cX3_nextStamp 24 = .ok (.getfield 243, 3) := by decide +kernel
theorem dX3_nextStamp_27 : decode cX3_nextStamp 27 = .ok (.aload_n 1, 1) := by decide +kernel
theorem dX3_nextStamp_28 : decode cX3_nextStamp 28 = .ok (.getfield 202, 3) := by decide +kernel
theorem dX3_nextStamp_31 : decode cX3_nextStamp 31 = .ok (.ior, 1) := by decide +kernel
theorem dX3_nextStamp_32 : decode cX3_nextStamp 32 = .ok (.iload_n 3, 1) := by decide +kernel
theorem dX3_nextStamp_33 : decode cX3_nextStamp 33 = .ok (.invokestatic 176, 3) := by decide +kernel
theorem dX3_nextStamp_36 : decode cX3_nextStamp 36 = .ok (.ifCond .eq 14, 3) := by decide +kernel
theorem dX3_nextStamp_39 : decode cX3_nextStamp 39 = .ok (.iload_n 2, 1) := by decide +kernel
theorem dX3_nextStamp_40 : decode cX3_nextStamp 40 = .ok (.aload_n 0, 1) := by decide +kernel
theorem dX3_nextStamp_41 : decode cX3_nextStamp 41 = .ok (.getfield 15, 3) := by decide +kernel
theorem dX3_nextStamp_44 : decode cX3_nextStamp 44 = .ok (.iload_n 3, 1) := by decide +kernel
theorem dX3_nextStamp_45 : decode cX3_nextStamp 45 = .ok (.iaload, 1) := by decide +kernel
theorem dX3_nextStamp_46 : decode cX3_nextStamp 46 = .ok (.invokestatic 220, 3) := by decide +kernel
theorem dX3_nextStamp_49 : decode cX3_nextStamp 49 = .ok (.istore_n 2, 1) := by decide +kernel
theorem dX3_nextStamp_50 : decode cX3_nextStamp 50 = .ok (.iinc 3 1, 3) := by decide +kernel
theorem dX3_nextStamp_53 : decode cX3_nextStamp 53 = .ok (.goto (-36), 3) := by decide +kernel
theorem dX3_nextStamp_56 : decode cX3_nextStamp 56 = .ok (.iload_n 2, 1) := by decide +kernel
theorem dX3_nextStamp_57 : decode cX3_nextStamp 57 = .ok (.iconst 1, 1) := by decide +kernel
theorem dX3_nextStamp_58 : decode cX3_nextStamp 58 = .ok (.iadd, 1) := by decide +kernel
theorem dX3_nextStamp_59 : decode cX3_nextStamp 59 = .ok (.ireturn, 1) := by decide +kernel
theorem dX3_bringIn_0 : decode cX3_bringIn 0 = .ok (.iconst 0, 1) := by decide +kernel
theorem dX3_bringIn_1 : decode cX3_bringIn 1 = .ok (.istore_n 3, 1) := by decide +kernel
theorem dX3_bringIn_2 : decode cX3_bringIn 2 = .ok (.iconst 0, 1) := by decide +kernel
theorem dX3_bringIn_3 : decode cX3_bringIn 3 = .ok (.istore 4, 2) := by decide +kernel
theorem dX3_bringIn_5 : decode cX3_bringIn 5 = .ok (.iload 4, 2) := by decide +kernel
theorem dX3_bringIn_7 : decode cX3_bringIn 7 = .ok (.bipush 10, 2) := by decide +kernel
theorem dX3_bringIn_9 : decode cX3_bringIn 9 = .ok (.if_icmp .ge 130, 3) := by decide +kernel
theorem dX3_bringIn_12 : decode cX3_bringIn 12 = .ok (.aload_n 1, 1) := by decide +kernel
theorem dX3_bringIn_13 : decode cX3_bringIn 13 = .ok (.getfield 202, 3) := by decide +kernel
theorem dX3_bringIn_16 : decode cX3_bringIn 16 = .ok (.iload 4, 2) := by decide +kernel
theorem dX3_bringIn_18 : decode cX3_bringIn 18 = .ok (.invokestatic 176, 3) := by decide +kernel
theorem dX3_bringIn_21 : decode cX3_bringIn 21 = .ok (.ifCond .eq 112, 3) := by decide +kernel
theorem dX3_bringIn_24 : decode cX3_bringIn 24 = .ok (.aload_n 0, 1) := by decide +kernel
theorem dX3_bringIn_25 : decode cX3_bringIn 25 = .ok (.getfield 9, 3) := by decide +kernel
theorem dX3_bringIn_28 : decode cX3_bringIn 28 = .ok (.iload 4, 2) := by decide +kernel
theorem dX3_bringIn_30 : decode cX3_bringIn 30 = .ok (.iaload, 1) := by decide +kernel
theorem dX3_bringIn_31 : decode cX3_bringIn 31 = .ok (.iconst (-1), 1) := by decide +kernel
theorem dX3_bringIn_32 : decode cX3_bringIn 32 = .ok (.if_icmp .ne 7, 3) := by decide +kernel
theorem dX3_bringIn_35 : decode cX3_bringIn 35 = .ok (.iconst 1, 1) := by decide +kernel
theorem dX3_bringIn_36 : decode cX3_bringIn 36 = .ok (.goto 4, 3) := by decide +kernel
theorem dX3_bringIn_39 : decode cX3_bringIn 39 = .ok (.iconst 0, 1) := by decide +kernel
theorem dX3_bringIn_40 : decode cX3_bringIn 40 = .ok (.aload_n 1, 1) := by decide +kernel
theorem dX3_bringIn_41 : decode cX3_bringIn 41 = .ok (.getfield 203, 3) := by decide +kernel
theorem dX3_bringIn_44 : decode cX3_bringIn 44 = .ok (.iload 4, 2) := by decide +kernel
theorem dX3_bringIn_46 : decode cX3_bringIn 46 = .ok (.iaload, 1) := by decide +kernel
theorem dX3_bringIn_47 : decode cX3_bringIn 47 = .ok (.iconst (-1), 1) := by decide +kernel
theorem dX3_bringIn_48 : decode cX3_bringIn 48 = .ok (.if_icmp .ne 7, 3) := by decide +kernel
theorem dX3_bringIn_51 : decode cX3_bringIn 51 = .ok (.iconst 1, 1) := by decide +kernel
theorem dX3_bringIn_52 : decode cX3_bringIn 52 = .ok (.goto 4, 3) := by decide +kernel
theorem dX3_bringIn_55 : decode cX3_bringIn 55 = .ok (.iconst 0, 1) := by decide +kernel
theorem dX3_bringIn_56 : decode cX3_bringIn 56 = .ok (.if_icmp .eq 44, 3) := by decide +kernel
theorem dX3_bringIn_59 : decode cX3_bringIn 59 = .ok (.iload_n 3, 1) := by decide +kernel
theorem dX3_bringIn_60 : decode cX3_bringIn 60 = .ok (.iconst 1, 1) := by decide +kernel
theorem dX3_bringIn_61 : decode cX3_bringIn 61 = .ok (.aload_n 0, 1) := by decide +kernel
theorem dX3_bringIn_62 : decode cX3_bringIn 62 = .ok (.iload 4, 2) := by decide +kernel
theorem dX3_bringIn_64 : decode cX3_bringIn 64 = .ok (.invokevirtual 207, 3) := by decide +kernel
theorem dX3_bringIn_67 : decode cX3_bringIn 67 = .ok (.ishl, 1) := by decide +kernel
theorem dX3_bringIn_68 : decode cX3_bringIn 68 = .ok (.ior, 1) := by decide +kernel
theorem dX3_bringIn_69 : decode cX3_bringIn 69 = .ok (.istore_n 3, 1) := by decide +kernel
theorem dX3_bringIn_70 : decode cX3_bringIn 70 = .ok (.aload_n 0, 1) := by decide +kernel
theorem dX3_bringIn_71 : decode cX3_bringIn 71 = .ok (.getfield 18, 3) := by decide +kernel
theorem dX3_bringIn_74 : decode cX3_bringIn 74 = .ok (.aload_n 0, 1) := by decide +kernel
theorem dX3_bringIn_75 : decode cX3_bringIn 75 = .ok (.iload 4, 2) := by decide +kernel
theorem dX3_bringIn_77 : decode cX3_bringIn 77 = .ok (.invokevirtual 207, 3) := by decide +kernel
theorem dX3_bringIn_80 : decode cX3_bringIn 80 = .ok (.dup2, 1) := by decide +kernel
theorem dX3_bringIn_81 : decode cX3_bringIn 81 = .ok (.iaload, 1) := by decide +kernel
theorem dX3_bringIn_82 : decode cX3_bringIn 82 = .ok (.iconst 1, 1) := by decide +kernel
theorem dX3_bringIn_83 : decode cX3_bringIn 83 = .ok (.iadd, 1) := by decide +kernel
theorem dX3_bringIn_84 : decode cX3_bringIn 84 = .ok (.iastore, 1) := by decide +kernel
theorem dX3_bringIn_85 : decode cX3_bringIn 85 = .ok (.aload_n 0, 1) := by decide +kernel
theorem dX3_bringIn_86 : decode cX3_bringIn 86 = .ok (.getfield 24, 3) := by decide +kernel
theorem dX3_bringIn_89 : decode cX3_bringIn 89 = .ok (.aload_n 0, 1) := by decide +kernel
theorem dX3_bringIn_90 : decode cX3_bringIn 90 = .ok (.iload 4, 2) := by decide +kernel
theorem dX3_bringIn_92 : decode cX3_bringIn 92 = .ok (.invokevirtual 207, 3) := by decide +kernel
theorem dX3_bringIn_95 : decode cX3_bringIn 95 = .ok (.aload_n 0, 1) := by decide +kernel
theorem dX3_bringIn_96 : decode cX3_bringIn 96 = .ok (.getfield 89, 3) := by decide +kernel
theorem dX3_bringIn_99 : decode cX3_bringIn 99 = .ok (.iastore, 1) := by decide +kernel
theorem dX3_bringIn_100 : decode cX3_bringIn 100 = .ok (.aload_n 0, 1) := by decide +kernel
theorem dX3_bringIn_101 : decode cX3_bringIn 101 = .ok (.getfield 9, 3) := by decide +kernel
theorem dX3_bringIn_104 : decode cX3_bringIn 104 = .ok (.iload 4, 2) := by decide +kernel
theorem dX3_bringIn_106 : decode cX3_bringIn 106 = .ok (.aload_n 1, 1) := by decide +kernel
theorem dX3_bringIn_107 : decode cX3_bringIn 107 = .ok (.getfield 203, 3) := by decide +kernel
theorem dX3_bringIn_110 : decode cX3_bringIn 110 = .ok (.iload 4, 2) := by decide +kernel
theorem dX3_bringIn_112 : decode cX3_bringIn 112 = .ok (.iaload, 1) := by decide +kernel
theorem dX3_bringIn_113 : decode cX3_bringIn 113 = .ok (.iastore, 1) := by decide +kernel
theorem dX3_bringIn_114 : decode cX3_bringIn 114 = .ok (.aload_n 0, 1) := by decide +kernel
theorem dX3_bringIn_115 : decode cX3_bringIn 115 = .ok (.getfield 15, 3) := by decide +kernel
theorem dX3_bringIn_118 : decode cX3_bringIn 118 = .ok (.iload 4, 2) := by decide +kernel
theorem dX3_bringIn_120 : decode cX3_bringIn 120 = .ok (.iload_n 2, 1) := by decide +kernel
theorem dX3_bringIn_121 : decode cX3_bringIn 121 = .ok (.iastore, 1) := by decide +kernel
theorem dX3_bringIn_122 : decode cX3_bringIn 122 = .ok (.aload_n 0, 1) := by decide +kernel
theorem dX3_bringIn_123 : decode cX3_bringIn 123 = .ok (.getfield 21, 3) := by decide +kernel
theorem dX3_bringIn_126 : decode cX3_bringIn 126 = .ok (.iload 4, 2) := by decide +kernel
theorem dX3_bringIn_128 : decode cX3_bringIn 128 = .ok (.aload_n 0, 1) := by decide +kernel
theorem dX3_bringIn_129 : decode cX3_bringIn 129 = .ok (.getfield 89, 3) := by decide +kernel
theorem dX3_bringIn_132 : decode cX3_bringIn 132 = .ok (.iastore, 1) := by decide +kernel
theorem dX3_bringIn_133 : decode cX3_bringIn 133 = .ok (.iinc 4 1, 3) := by decide +kernel
theorem dX3_bringIn_136 : decode cX3_bringIn 136 = .ok (.goto (-131), 3) := by decide +kernel
theorem dX3_bringIn_139 : decode cX3_bringIn 139 = .ok (.iload_n 3, 1) := by decide +kernel
theorem dX3_bringIn_140 : decode cX3_bringIn 140 = .ok (.ireturn, 1) := by decide +kernel
theorem dX3_view_0 : decode cX3_view 0 = .ok (.iload_n 1, 1) := by decide +kernel
theorem dX3_view_1 : decode cX3_view 1 = .ok (.ifCond .lt 9, 3) := by decide +kernel
theorem dX3_view_4 : decode cX3_view 4 = .ok (.iload_n 1, 1) := by decide +kernel
theorem dX3_view_5 : decode cX3_view 5 = .ok (.bipush 110, 2) := by decide +kernel
theorem dX3_view_7 : decode cX3_view 7 = .ok (.if_icmp .lt 6, 3) := by decide +kernel
theorem dX3_view_10 : decode cX3_view 10 = .ok (.bipush (-2), 2) := by decide +kernel
theorem dX3_view_12 : decode cX3_view 12 = .ok (.ireturn, 1) := by decide +kernel
theorem dX3_view_13 : decode cX3_view 13 = .ok (.iload_n 1, 1) := by decide +kernel
theorem dX3_view_14 : decode cX3_view 14 = .ok (.bipush 10, 2) := by decide +kernel
theorem dX3_view_16 : decode cX3_view 16 = .ok (.irem, 1) := by decide +kernel
theorem dX3_view_17 : decode cX3_view 17 = .ok (.istore_n 2, 1) := by decide +kernel
theorem dX3_view_18 : decode cX3_view 18 = .ok (.iload_n 1, 1) := by decide +kernel
theorem dX3_view_19 : decode cX3_view 19 = .ok (.bipush 10, 2) := by decide +kernel
theorem dX3_view_21 : decode cX3_view 21 = .ok (.idiv, 1) := by decide +kernel
theorem dX3_view_22 : decode cX3_view 22 = .ok (.tableswitch 79 0 4 #[34, 40, 47, 54, 57], 34) := by decide +kernel
theorem dX3_view_56 : decode cX3_view 56 = .ok (.aload_n 0, 1) := by decide +kernel
theorem dX3_view_57 : decode cX3_view 57 = .ok (.iload_n 2, 1) := by decide +kernel
theorem dX3_view_58 : decode cX3_view 58 = .ok (.invokevirtual 284, 3) := by decide +kernel
theorem dX3_view_61 : decode cX3_view 61 = .ok (.ireturn, 1) := by decide +kernel
theorem dX3_view_62 : decode cX3_view 62 = .ok (.aload_n 0, 1) := by decide +kernel
theorem dX3_view_63 : decode cX3_view 63 = .ok (.getfield 9, 3) := by decide +kernel
theorem dX3_view_66 : decode cX3_view 66 = .ok (.iload_n 2, 1) := by decide +kernel
theorem dX3_view_67 : decode cX3_view 67 = .ok (.iaload, 1) := by decide +kernel
theorem dX3_view_68 : decode cX3_view 68 = .ok (.ireturn, 1) := by decide +kernel
theorem dX3_view_69 : decode cX3_view 69 = .ok (.aload_n 0, 1) := by decide +kernel
theorem dX3_view_70 : decode cX3_view 70 = .ok (.getfield 15, 3) := by decide +kernel
theorem dX3_view_73 : decode cX3_view 73 = .ok (.iload_n 2, 1) := by decide +kernel
theorem dX3_view_74 : decode cX3_view 74 = .ok (.iaload, 1) := by decide +kernel
theorem dX3_view_75 : decode cX3_view 75 = .ok (.ireturn, 1) := by decide +kernel
theorem dX3_view_76 : decode cX3_view 76 = .ok (.bipush (-2), 2) := by decide +kernel
theorem dX3_view_78 : decode cX3_view 78 = .ok (.ireturn, 1) := by decide +kernel
theorem dX3_view_79 : decode cX3_view 79 = .ok (.iload_n 2, 1) := by decide +kernel
theorem dX3_view_80 : decode cX3_view 80 = .ok (.aload_n 0, 1) := by decide +kernel
theorem dX3_view_81 : decode cX3_view 81 = .ok (.bipush 9, 2) := by decide +kernel
theorem dX3_view_83 : decode cX3_view 83 = .ok (.invokevirtual 207, 3) := by decide +kernel
theorem dX3_view_86 : decode cX3_view 86 = .ok (.if_icmp .gt 12, 3) := by decide +kernel
theorem dX3_view_89 : decode cX3_view 89 = .ok (.aload_n 0, 1) := by decide +kernel
theorem dX3_view_90 : decode cX3_view 90 = .ok (.getfield 18, 3) := by decide +kernel
theorem dX3_view_93 : decode cX3_view 93 = .ok (.iload_n 2, 1) := by decide +kernel
theorem dX3_view_94 : decode cX3_view 94 = .ok (.iaload, 1) := by decide +kernel
theorem dX3_view_95 : decode cX3_view 95 = .ok (.goto 5, 3) := by decide +kernel
theorem dX3_view_98 : decode cX3_view 98 = .ok (.bipush (-2), 2) := by decide +kernel
theorem dX3_view_100 : decode cX3_view 100 = .ok (.ireturn, 1) := by decide +kernel
theorem dX3_view_101 : decode cX3_view 101 = .ok (.iload_n 2, 1) := by decide +kernel
theorem dX3_view_102 : decode cX3_view 102 = .ok (.aload_n 0, 1) := by decide +kernel
theorem dX3_view_103 : decode cX3_view 103 = .ok (.getfield 67, 3) := by decide +kernel
theorem dX3_view_106 : decode cX3_view 106 = .ok (.if_icmp .ge 15, 3) := by decide +kernel
theorem dX3_view_109 : decode cX3_view 109 = .ok (.aload_n 0, 1) := by decide +kernel
theorem dX3_view_110 : decode cX3_view 110 = .ok (.iload_n 2, 1) := by decide +kernel
theorem dX3_view_111 : decode cX3_view 111 = .ok (.iload_n 1, 1) := by decide +kernel
theorem dX3_view_112 : decode cX3_view 112 = .ok (.bipush 10, 2) := by decide +kernel
theorem dX3_view_114 : decode cX3_view 114 = .ok (.idiv, 1) := by decide +kernel
theorem dX3_view_115 : decode cX3_view 115 = .ok (.invokevirtual 287, 3) := by decide +kernel
theorem dX3_view_118 : decode cX3_view 118 = .ok (.goto 5, 3) := by decide +kernel
theorem dX3_view_121 : decode cX3_view 121 = .ok (.bipush (-2), 2) := by decide +kernel
theorem dX3_view_123 : decode cX3_view 123 = .ok (.ireturn, 1) := by decide +kernel
theorem dX3_viewAll_0 : decode cX3_viewAll 0 = .ok (.iload_n 1, 1) := by decide +kernel
theorem dX3_viewAll_1 : decode cX3_viewAll 1 = .ok (.tableswitch 64 0 4 #[35, 40, 46, 51, 56], 35) := by decide +kernel
theorem dX3_viewAll_36 : decode cX3_viewAll 36 = .ok (.aload_n 0, 1) := by decide +kernel
theorem dX3_viewAll_37 : decode cX3_viewAll 37 = .ok (.getfield 68, 3) := by decide +kernel
theorem dX3_viewAll_40 : decode cX3_viewAll 40 = .ok (.ireturn, 1) := by decide +kernel
theorem dX3_viewAll_41 : decode cX3_viewAll 41 = .ok (.aload_n 0, 1) := by decide +kernel
theorem dX3_viewAll_42 : decode cX3_viewAll 42 = .ok (.iconst 0, 1) := by decide +kernel
theorem dX3_viewAll_43 : decode cX3_viewAll 43 = .ok (.invokevirtual 157, 3) := by decide +kernel
theorem dX3_viewAll_46 : decode cX3_viewAll 46 = .ok (.ireturn, 1) := by decide +kernel
theorem dX3_viewAll_47 : decode cX3_viewAll 47 = .ok (.aload_n 0, 1) := by decide +kernel
theorem dX3_viewAll_48 : decode cX3_viewAll 48 = .ok (.getfield 86, 3) := by decide +kernel
theorem dX3_viewAll_51 : decode cX3_viewAll 51 = .ok (.ireturn, 1) := by decide +kernel
theorem dX3_viewAll_52 : decode cX3_viewAll 52 = .ok (.aload_n 0, 1) := by decide +kernel
theorem dX3_viewAll_53 : decode cX3_viewAll 53 = .ok (.invokevirtual 290, 3) := by decide +kernel
theorem dX3_viewAll_56 : decode cX3_viewAll 56 = .ok (.ireturn, 1) := by decide +kernel
theorem dX3_viewAll_57 : decode cX3_viewAll 57 = .ok (.aload_n 0, 1) := by decide +kernel
theorem dX3_viewAll_58 : decode cX3_viewAll 58 = .ok (.getfield 9, 3) := by decide +kernel
theorem dX3_viewAll_61 : decode cX3_viewAll 61 = .ok (.invokestatic 293, 3) := by decide +kernel
theorem dX3_viewAll_64 : decode cX3_viewAll 64 = .ok (.ireturn, 1) := by decide +kernel
theorem dX3_viewAll_65 : decode cX3_viewAll 65 = .ok (.bipush (-2), 2) := by decide +kernel
theorem dX3_viewAll_67 : decode cX3_viewAll 67 = .ok (.ireturn, 1) := by decide +kernel
theorem dX3_viewWorker_0 : decode cX3_viewWorker 0 = .ok (.iload_n 2, 1) := by decide +kernel
theorem dX3_viewWorker_1 : decode cX3_viewWorker 1 = .ok (.tableswitch 82 5 9 #[35, 45, 55, 65, 75], 35) := by decide +kernel
theorem dX3_viewWorker_36 : decode cX3_viewWorker 36 = .ok (.aload_n 0, 1) := by decide +kernel
theorem dX3_viewWorker_37 : decode cX3_viewWorker 37 = .ok (.getfield 29, 3) := by decide +kernel
theorem dX3_viewWorker_40 : decode cX3_viewWorker 40 = .ok (.iload_n 1, 1) := by decide +kernel
theorem dX3_viewWorker_41 : decode cX3_viewWorker 41 = .ok (.aaload, 1) := by decide +kernel
theorem dX3_viewWorker_42 : decode cX3_viewWorker 42 = .ok (.getfield 132, 3) := by decide +kernel
theorem dX3_viewWorker_45 : decode cX3_viewWorker 45 = .ok (.ireturn, 1) := by decide +kernel
theorem dX3_viewWorker_46 : decode cX3_viewWorker 46 = .ok (.aload_n 0, 1) := by decide +kernel
theorem dX3_viewWorker_47 : decode cX3_viewWorker 47 = .ok (.getfield 29, 3) := by decide +kernel
theorem dX3_viewWorker_50 : decode cX3_viewWorker 50 = .ok (.iload_n 1, 1) := by decide +kernel
theorem dX3_viewWorker_51 : decode cX3_viewWorker 51 = .ok (.aaload, 1) := by decide +kernel
theorem dX3_viewWorker_52 : decode cX3_viewWorker 52 = .ok (.getfield 115, 3) := by decide +kernel
theorem dX3_viewWorker_55 : decode cX3_viewWorker 55 = .ok (.ireturn, 1) := by decide +kernel
theorem dX3_viewWorker_56 : decode cX3_viewWorker 56 = .ok (.aload_n 0, 1) := by decide +kernel
theorem dX3_viewWorker_57 : decode cX3_viewWorker 57 = .ok (.getfield 29, 3) := by decide +kernel
theorem dX3_viewWorker_60 : decode cX3_viewWorker 60 = .ok (.iload_n 1, 1) := by decide +kernel
theorem dX3_viewWorker_61 : decode cX3_viewWorker 61 = .ok (.aaload, 1) := by decide +kernel
theorem dX3_viewWorker_62 : decode cX3_viewWorker 62 = .ok (.getfield 213, 3) := by decide +kernel
theorem dX3_viewWorker_65 : decode cX3_viewWorker 65 = .ok (.ireturn, 1) := by decide +kernel
theorem dX3_viewWorker_66 : decode cX3_viewWorker 66 = .ok (.aload_n 0, 1) := by decide +kernel
theorem dX3_viewWorker_67 : decode cX3_viewWorker 67 = .ok (.getfield 29, 3) := by decide +kernel
theorem dX3_viewWorker_70 : decode cX3_viewWorker 70 = .ok (.iload_n 1, 1) := by decide +kernel
theorem dX3_viewWorker_71 : decode cX3_viewWorker 71 = .ok (.aaload, 1) := by decide +kernel
theorem dX3_viewWorker_72 : decode cX3_viewWorker 72 = .ok (.getfield 272, 3) := by decide +kernel
theorem dX3_viewWorker_75 : decode cX3_viewWorker 75 = .ok (.ireturn, 1) := by decide +kernel
theorem dX3_viewWorker_76 : decode cX3_viewWorker 76 = .ok (.aload_n 0, 1) := by decide +kernel
theorem dX3_viewWorker_77 : decode cX3_viewWorker 77 = .ok (.iload_n 1, 1) := by decide +kernel
theorem dX3_viewWorker_78 : decode cX3_viewWorker 78 = .ok (.iconst 0, 1) := by decide +kernel
theorem dX3_viewWorker_79 : decode cX3_viewWorker 79 = .ok (.invokevirtual 297, 3) := by decide +kernel
theorem dX3_viewWorker_82 : decode cX3_viewWorker 82 = .ok (.ireturn, 1) := by decide +kernel
theorem dX3_viewWorker_83 : decode cX3_viewWorker 83 = .ok (.aload_n 0, 1) := by decide +kernel
theorem dX3_viewWorker_84 : decode cX3_viewWorker 84 = .ok (.iload_n 1, 1) := by decide +kernel
theorem dX3_viewWorker_85 : decode cX3_viewWorker 85 = .ok (.iconst 1, 1) := by decide +kernel
theorem dX3_viewWorker_86 : decode cX3_viewWorker 86 = .ok (.invokevirtual 297, 3) := by decide +kernel
theorem dX3_viewWorker_89 : decode cX3_viewWorker 89 = .ok (.ireturn, 1) := by decide +kernel
theorem dX3_linesOf_0 : decode cX3_linesOf 0 = .ok (.iconst 0, 1) := by decide +kernel
theorem dX3_linesOf_1 : decode cX3_linesOf 1 = .ok (.istore_n 3, 1) := by decide +kernel
theorem dX3_linesOf_2 : decode cX3_linesOf 2 = .ok (.iconst 0, 1) := by decide +kernel
theorem dX3_linesOf_3 : decode cX3_linesOf 3 = .ok (.istore 4, 2) := by decide +kernel
theorem dX3_linesOf_5 : decode cX3_linesOf 5 = .ok (.iload 4, 2) := by decide +kernel
theorem dX3_linesOf_7 : decode cX3_linesOf 7 = .ok (.aload_n 0, 1) := by decide +kernel
theorem dX3_linesOf_8 : decode cX3_linesOf 8 = .ok (.getfield 86, 3) := by decide +kernel
theorem dX3_linesOf_11 : decode cX3_linesOf 11 = .ok (.if_icmp .ge 56, 3) := by decide +kernel
theorem dX3_linesOf_14 : decode cX3_linesOf 14 = .ok (.aload_n 0, 1) := by decide +kernel
theorem dX3_linesOf_15 : decode cX3_linesOf 15 = .ok (.getfield 35, 3) := by decide +kernel
theorem dX3_linesOf_18 : decode cX3_linesOf 18 = .ok (.iload 4, 2) := by decide +kernel
theorem dX3_linesOf_20 : decode cX3_linesOf 20 = .ok (.aaload, 1) := by decide +kernel
theorem dX3_linesOf_21 : decode cX3_linesOf 21 = .ok (.getfield 147, 3) := by decide +kernel
theorem dX3_linesOf_24 : decode cX3_linesOf 24 = .ok (.iload_n 1, 1) := by decide +kernel
theorem dX3_linesOf_25 : decode cX3_linesOf 25 = .ok (.if_icmp .ne 36, 3) := by decide +kernel
theorem dX3_linesOf_28 : decode cX3_linesOf 28 = .ok (.aload_n 0, 1) := by decide +kernel
theorem dX3_linesOf_29 : decode cX3_linesOf 29 = .ok (.getfield 35, 3) := by decide +kernel
theorem dX3_linesOf_32 : decode cX3_linesOf 32 = .ok (.iload 4, 2) := by decide +kernel
theorem dX3_linesOf_34 : decode cX3_linesOf 34 = .ok (.aaload, 1) := by decide +kernel
theorem dX3_linesOf_35 : decode cX3_linesOf 35 = .ok (.getfield 169, 3) := by decide +kernel
theorem dX3_linesOf_38 : decode cX3_linesOf 38 = .ok (.ifCond .ne 23, 3) := by decide +kernel
theorem dX3_linesOf_41 : decode cX3_linesOf 41 = .ok (.aload_n 0, 1) := by decide +kernel
theorem dX3_linesOf_42 : decode cX3_linesOf 42 = .ok (.getfield 35, 3) := by decide +kernel
theorem dX3_linesOf_45 : decode cX3_linesOf 45 = .ok (.iload 4, 2) := by decide +kernel
theorem dX3_linesOf_47 : decode cX3_linesOf 47 = .ok (.aaload, 1) := by decide +kernel
theorem dX3_linesOf_48 : decode cX3_linesOf 48 = .ok (.getfield 150, 3) := by decide +kernel
theorem dX3_linesOf_51 : decode cX3_linesOf 51 = .ok (.ifCond .ne 7, 3) := by decide +kernel
theorem dX3_linesOf_54 : decode cX3_linesOf 54 = .ok (.iload_n 2, 1) := by decide +kernel
theorem dX3_linesOf_55 : decode cX3_linesOf 55 = .ok (.ifCond .ne 6, 3) := by decide +kernel
theorem dX3_linesOf_58 : decode cX3_linesOf 58 = .ok (.iinc 3 1, 3) := by decide +kernel
theorem dX3_linesOf_61 : decode cX3_linesOf 61 = .ok (.iinc 4 1, 3) := by decide +kernel
theorem dX3_linesOf_64 : decode cX3_linesOf 64 = .ok (.goto (-59), 3) := by decide +kernel
theorem dX3_linesOf_67 : decode cX3_linesOf 67 = .ok (.iload_n 3, 1) := by decide +kernel
theorem dX3_linesOf_68 : decode cX3_linesOf 68 = .ok (.ireturn, 1) := by decide +kernel
theorem dX3_refusals_0 : decode cX3_refusals 0 = .ok (.iconst 0, 1) := by decide +kernel
theorem dX3_refusals_1 : decode cX3_refusals 1 = .ok (.istore_n 1, 1) := by decide +kernel
theorem dX3_refusals_2 : decode cX3_refusals 2 = .ok (.iconst 0, 1) := by decide +kernel
theorem dX3_refusals_3 : decode cX3_refusals 3 = .ok (.istore_n 2, 1) := by decide +kernel
theorem dX3_refusals_4 : decode cX3_refusals 4 = .ok (.iload_n 2, 1) := by decide +kernel
theorem dX3_refusals_5 : decode cX3_refusals 5 = .ok (.aload_n 0, 1) := by decide +kernel
theorem dX3_refusals_6 : decode cX3_refusals 6 = .ok (.getfield 89, 3) := by decide +kernel
theorem dX3_refusals_9 : decode cX3_refusals 9 = .ok (.if_icmp .ge 32, 3) := by decide +kernel
theorem dX3_refusals_12 : decode cX3_refusals 12 = .ok (.aload_n 0, 1) := by decide +kernel
theorem dX3_refusals_13 : decode cX3_refusals 13 = .ok (.getfield 39, 3) := by decide +kernel
theorem dX3_refusals_16 : decode cX3_refusals 16 = .ok (.iload_n 2, 1) := by decide +kernel
theorem dX3_refusals_17 : decode cX3_refusals 17 = .ok (.iaload, 1) := by decide +kernel
theorem dX3_refusals_18 : decode cX3_refusals 18 = .ok (.iconst 2, 1) := by decide +kernel
theorem dX3_refusals_19 : decode cX3_refusals 19 = .ok (.if_icmp .eq 13, 3) := by decide +kernel
theorem dX3_refusals_22 : decode cX3_refusals 22 = .ok (.aload_n 0, 1) := by decide +kernel
theorem dX3_refusals_23 : decode cX3_refusals 23 = .ok (.getfield 39, 3) := by decide +kernel
theorem dX3_refusals_26 : decode cX3_refusals 26 = .ok (.iload_n 2, 1) := by decide +kernel
theorem dX3_refusals_27 : decode cX3_refusals 27 = .ok (.iaload, 1) := by decide +kernel
theorem dX3_refusals_28 : decode cX3_refusals 28 = .ok (.iconst 3, 1) := by decide +kernel
theorem dX3_refusals_29 : decode cX3_refusals 29 = .ok (.if_icmp .ne 6, 3) := by decide +kernel
theorem dX3_refusals_32 : decode cX3_refusals 32 = .ok (.iinc 1 1, 3) := by decide +kernel
theorem dX3_refusals_35 : decode cX3_refusals 35 = .ok (.iinc 2 1, 3) := by decide +kernel
theorem dX3_refusals_38 : decode cX3_refusals 38 = .ok (.goto (-34), 3) := by decide +kernel
theorem dX3_refusals_41 : decode cX3_refusals 41 = .ok (.iload_n 1, 1) := by decide +kernel
theorem dX3_refusals_42 : decode cX3_refusals 42 = .ok (.ireturn, 1) := by decide +kernel
theorem dX3_often_0 : decode cX3_often 0 = .ok (.iconst (-1), 1) := by decide +kernel
theorem dX3_often_1 : decode cX3_often 1 = .ok (.istore_n 1, 1) := by decide +kernel
theorem dX3_often_2 : decode cX3_often 2 = .ok (.iconst 0, 1) := by decide +kernel
theorem dX3_often_3 : decode cX3_often 3 = .ok (.istore_n 2, 1) := by decide +kernel
theorem dX3_often_4 : decode cX3_often 4 = .ok (.iconst 0, 1) := by decide +kernel
theorem dX3_often_5 : decode cX3_often 5 = .ok (.istore_n 3, 1) := by decide +kernel
theorem dX3_often_6 : decode cX3_often 6 = .ok (.iload_n 3, 1) := by decide +kernel
theorem dX3_often_7 : decode cX3_often 7 = .ok (.aload_n 0, 1) := by decide +kernel
theorem dX3_often_8 : decode cX3_often 8 = .ok (.getfield 55, 3) := by decide +kernel
theorem dX3_often_11 : decode cX3_often 11 = .ok (.getfield 301, 3) := by decide +kernel
theorem dX3_often_14 : decode cX3_often 14 = .ok (.if_icmp .ge 58, 3) := by decide +kernel
theorem dX3_often_17 : decode cX3_often 17 = .ok (.iconst 0, 1) := by decide +kernel
theorem dX3_often_18 : decode cX3_often 18 = .ok (.istore 4, 2) := by decide +kernel
theorem dX3_often_20 : decode cX3_often 20 = .ok (.iconst 0, 1) := by decide +kernel
theorem dX3_often_21 : decode cX3_often 21 = .ok (.istore 5, 2) := by decide +kernel
theorem dX3_often_23 : decode cX3_often 23 = .ok (.iload 5, 2) := by decide +kernel
theorem dX3_often_25 : decode cX3_often 25 = .ok (.aload_n 0, 1) := by decide +kernel
theorem dX3_often_26 : decode cX3_often 26 = .ok (.getfield 86, 3) := by decide +kernel
theorem dX3_often_29 : decode cX3_often 29 = .ok (.if_icmp .ge 26, 3) := by decide +kernel
theorem dX3_often_32 : decode cX3_often 32 = .ok (.aload_n 0, 1) := by decide +kernel
theorem dX3_often_33 : decode cX3_often 33 = .ok (.getfield 35, 3) := by decide +kernel
theorem dX3_often_36 : decode cX3_often 36 = .ok (.iload 5, 2) := by decide +kernel
theorem dX3_often_38 : decode cX3_often 38 = .ok (.aaload, 1) := by decide +kernel
theorem dX3_often_39 : decode cX3_often 39 = .ok (.getfield 278, 3) := by decide +kernel
theorem dX3_often_42 : decode cX3_often 42 = .ok (.iload_n 3, 1) := by decide +kernel
theorem dX3_often_43 : decode cX3_often 43 = .ok (.if_icmp .ne 6, 3) := by decide +kernel
theorem dX3_often_46 : decode cX3_often 46 = .ok (.iinc 4 1, 3) := by decide +kernel
theorem dX3_often_49 : decode cX3_often 49 = .ok (.iinc 5 1, 3) := by decide +kernel
theorem dX3_often_52 : decode cX3_often 52 = .ok (.goto (-29), 3) := by decide +kernel
theorem dX3_often_55 : decode cX3_often 55 = .ok (.iload 4, 2) := by decide +kernel
theorem dX3_often_57 : decode cX3_often 57 = .ok (.iload_n 2, 1) := by decide +kernel
theorem dX3_often_58 : decode cX3_often 58 = .ok (.if_icmp .le 8, 3) := by decide +kernel
theorem dX3_often_61 : decode cX3_often 61 = .ok (.iload 4, 2) := by decide +kernel
theorem dX3_often_63 : decode cX3_often 63 = .ok (.istore_n 2, 1) := by decide +kernel
theorem dX3_often_64 : decode cX3_often 64 = .ok (.iload_n 3, 1) := by decide +kernel
theorem dX3_often_65 : decode cX3_often 65 = .ok (.istore_n 1, 1) := by decide +kernel
theorem dX3_often_66 : decode cX3_often 66 = .ok (.iinc 3 1, 3) := by decide +kernel
theorem dX3_often_69 : decode cX3_often 69 = .ok (.goto (-63), 3) := by decide +kernel
theorem dX3_often_72 : decode cX3_often 72 = .ok (.iload_n 1, 1) := by decide +kernel
theorem dX3_often_73 : decode cX3_often 73 = .ok (.ireturn, 1) := by decide +kernel
theorem dX3_hot_0 : decode cX3_hot 0 = .ok (.iconst (-1), 1) := by decide +kernel
theorem dX3_hot_1 : decode cX3_hot 1 = .ok (.istore_n 1, 1) := by decide +kernel
theorem dX3_hot_2 : decode cX3_hot 2 = .ok (.iconst 0, 1) := by decide +kernel
theorem dX3_hot_3 : decode cX3_hot 3 = .ok (.istore_n 2, 1) := by decide +kernel
theorem dX3_hot_4 : decode cX3_hot 4 = .ok (.iconst 0, 1) := by decide +kernel
theorem dX3_hot_5 : decode cX3_hot 5 = .ok (.istore_n 3, 1) := by decide +kernel
theorem dX3_hot_6 : decode cX3_hot 6 = .ok (.iload_n 3, 1) := by decide +kernel
theorem dX3_hot_7 : decode cX3_hot 7 = .ok (.bipush 10, 2) := by decide +kernel
theorem dX3_hot_9 : decode cX3_hot 9 = .ok (.if_icmp .ge 66, 3) := by decide +kernel
theorem dX3_hot_12 : decode cX3_hot 12 = .ok (.iconst 0, 1) := by decide +kernel
theorem dX3_hot_13 : decode cX3_hot 13 = .ok (.istore 4, 2) := by decide +kernel
theorem dX3_hot_15 : decode cX3_hot 15 = .ok (.iconst 0, 1) := by decide +kernel
theorem dX3_hot_16 : decode cX3_hot 16 = .ok (.istore 5, 2) := by decide +kernel
theorem dX3_hot_18 : decode cX3_hot 18 = .ok (.iload 5, 2) := by decide +kernel
theorem dX3_hot_20 : decode cX3_hot 20 = .ok (.aload_n 0, 1) := by decide +kernel
theorem dX3_hot_21 : decode cX3_hot 21 = .ok (.getfield 89, 3) := by decide +kernel
theorem dX3_hot_24 : decode cX3_hot 24 = .ok (.if_icmp .ge 34, 3) := by decide +kernel
theorem dX3_hot_27 : decode cX3_hot 27 = .ok (.aload_n 0, 1) := by decide +kernel
theorem dX3_hot_28 : decode cX3_hot 28 = .ok (.getfield 39, 3) := by decide +kernel
theorem dX3_hot_31 : decode cX3_hot 31 = .ok (.iload 5, 2) := by decide +kernel
theorem dX3_hot_33 : decode cX3_hot 33 = .ok (.iaload, 1) := by decide +kernel
theorem dX3_hot_34 : decode cX3_hot 34 = .ok (.iconst 2, 1) := by decide +kernel
theorem dX3_hot_35 : decode cX3_hot 35 = .ok (.if_icmp .ne 17, 3) := by decide +kernel
theorem dX3_hot_38 : decode cX3_hot 38 = .ok (.aload_n 0, 1) := by decide +kernel
theorem dX3_hot_39 : decode cX3_hot 39 = .ok (.getfield 42, 3) := by decide +kernel
theorem dX3_hot_42 : decode cX3_hot 42 = .ok (.iload 5, 2) := by decide +kernel
theorem dX3_hot_44 : decode cX3_hot 44 = .ok (.iaload, 1) := by decide +kernel
theorem dX3_hot_45 : decode cX3_hot 45 = .ok (.iload_n 3, 1) := by decide +kernel
theorem dX3_hot_46 : decode cX3_hot 46 = .ok (.if_icmp .ne 6, 3) := by decide +kernel
theorem dX3_hot_49 : decode cX3_hot 49 = .ok (.iinc 4 1, 3) := by decide +kernel
theorem dX3_hot_52 : decode cX3_hot 52 = .ok (.iinc 5 1, 3) := by decide +kernel
theorem dX3_hot_55 : decode cX3_hot 55 = .ok (.goto (-37), 3) := by decide +kernel
theorem dX3_hot_58 : decode cX3_hot 58 = .ok (.iload 4, 2) := by decide +kernel
theorem dX3_hot_60 : decode cX3_hot 60 = .ok (.iload_n 2, 1) := by decide +kernel
theorem dX3_hot_61 : decode cX3_hot 61 = .ok (.if_icmp .le 8, 3) := by decide +kernel
theorem dX3_hot_64 : decode cX3_hot 64 = .ok (.iload 4, 2) := by decide +kernel
theorem dX3_hot_66 : decode cX3_hot 66 = .ok (.istore_n 2, 1) := by decide +kernel
theorem dX3_hot_67 : decode cX3_hot 67 = .ok (.iload_n 3, 1) := by decide +kernel
theorem dX3_hot_68 : decode cX3_hot 68 = .ok (.istore_n 1, 1) := by decide +kernel
theorem dX3_hot_69 : decode cX3_hot 69 = .ok (.iinc 3 1, 3) := by decide +kernel
theorem dX3_hot_72 : decode cX3_hot 72 = .ok (.goto (-66), 3) := by decide +kernel
theorem dX3_hot_75 : decode cX3_hot 75 = .ok (.iload_n 1, 1) := by decide +kernel
theorem dX3_hot_76 : decode cX3_hot 76 = .ok (.ireturn, 1) := by decide +kernel
theorem dX3_topStamp_0 : decode cX3_topStamp 0 = .ok (.iconst 0, 1) := by decide +kernel
theorem dX3_topStamp_1 : decode cX3_topStamp 1 = .ok (.istore_n 1, 1) := by decide +kernel
theorem dX3_topStamp_2 : decode cX3_topStamp 2 = .ok (.iconst 0, 1) := by decide +kernel
theorem dX3_topStamp_3 : decode cX3_topStamp 3 = .ok (.istore_n 2, 1) := by decide +kernel
theorem dX3_topStamp_4 : decode cX3_topStamp 4 = .ok (.iload_n 2, 1) := by decide +kernel
theorem dX3_topStamp_5 : decode cX3_topStamp 5 = .ok (.bipush 10, 2) := by decide +kernel
theorem dX3_topStamp_7 : decode cX3_topStamp 7 = .ok (.if_icmp .ge 20, 3) := by decide +kernel
theorem dX3_topStamp_10 : decode cX3_topStamp 10 = .ok (.iload_n 1, 1) := by decide +kernel
theorem dX3_topStamp_11 : decode cX3_topStamp 11 = .ok (.aload_n 0, 1) := by decide +kernel
theorem dX3_topStamp_12 : decode cX3_topStamp 12 = .ok (.getfield 15, 3) := by decide +kernel
theorem dX3_topStamp_15 : decode cX3_topStamp 15 = .ok (.iload_n 2, 1) := by decide +kernel
theorem dX3_topStamp_16 : decode cX3_topStamp 16 = .ok (.iaload, 1) := by decide +kernel
theorem dX3_topStamp_17 : decode cX3_topStamp 17 = .ok (.invokestatic 220, 3) := by decide +kernel
theorem dX3_topStamp_20 : decode cX3_topStamp 20 = .ok (.istore_n 1, 1) := by decide +kernel
theorem dX3_topStamp_21 : decode cX3_topStamp 21 = .ok (.iinc 2 1, 3) := by decide +kernel
theorem dX3_topStamp_24 : decode cX3_topStamp 24 = .ok (.goto (-20), 3) := by decide +kernel
theorem dX3_topStamp_27 : decode cX3_topStamp 27 = .ok (.iload_n 1, 1) := by decide +kernel
theorem dX3_topStamp_28 : decode cX3_topStamp 28 = .ok (.ireturn, 1) := by decide +kernel
theorem dX3_weaveOnce_0 : decode cX3_weaveOnce 0 = .ok (.aload_n 0, 1) := by decide +kernel
theorem dX3_weaveOnce_1 : decode cX3_weaveOnce 1 = .ok (.aload_n 0, 1) := by decide +kernel
theorem dX3_weaveOnce_2 : decode cX3_weaveOnce 2 = .ok (.getfield 51, 3) := by decide +kernel
theorem dX3_weaveOnce_5 : decode cX3_weaveOnce 5 = .ok (.aload_n 0, 1) := by decide +kernel
theorem dX3_weaveOnce_6 : decode cX3_weaveOnce 6 = .ok (.getfield 55, 3) := by decide +kernel
theorem dX3_weaveOnce_9 : decode cX3_weaveOnce 9 = .ok (.invokevirtual 304, 3) := by decide +kernel
theorem dX3_weaveOnce_12 : decode cX3_weaveOnce 12 = .ok (.aload_n 0, 1) := by decide +kernel
theorem dX3_weaveOnce_13 : decode cX3_weaveOnce 13 = .ok (.iconst 2, 1) := by decide +kernel
theorem dX3_weaveOnce_14 : decode cX3_weaveOnce 14 = .ok (.putfield 67, 3) := by decide +kernel
theorem dX3_weaveOnce_17 : decode cX3_weaveOnce 17 = .ok (.iconst 1, 1) := by decide +kernel
theorem dX3_weaveOnce_18 : decode cX3_weaveOnce 18 = .ok (.iload_n 3, 1) := by decide +kernel
theorem dX3_weaveOnce_19 : decode cX3_weaveOnce 19 = .ok (.isub, 1) := by decide +kernel
theorem dX3_weaveOnce_20 : decode cX3_weaveOnce 20 = .ok (.istore 5, 2) := by decide +kernel
theorem dX3_weaveOnce_22 : decode cX3_weaveOnce 22 = .ok (.aload_n 0, 1) := by decide +kernel
theorem dX3_weaveOnce_23 : decode cX3_weaveOnce 23 = .ok (.bipush 6, 2) := by decide +kernel
theorem dX3_weaveOnce_25 : decode cX3_weaveOnce 25 = .ok (.iconst 0, 1) := by decide +kernel
theorem dX3_weaveOnce_26 : decode cX3_weaveOnce 26 = .ok (.iload_n 1, 1) := by decide +kernel
theorem dX3_weaveOnce_27 : decode cX3_weaveOnce 27 = .ok (.invokevirtual 308, 3) := by decide +kernel
theorem dX3_weaveOnce_30 : decode cX3_weaveOnce 30 = .ok (.pop, 1) := by decide +kernel
theorem dX3_weaveOnce_31 : decode cX3_weaveOnce 31 = .ok (.aload_n 0, 1) := by decide +kernel
theorem dX3_weaveOnce_32 : decode cX3_weaveOnce 32 = .ok (.bipush 6, 2) := by decide +kernel
theorem dX3_weaveOnce_34 : decode cX3_weaveOnce 34 = .ok (.iconst 1, 1) := by decide +kernel
theorem dX3_weaveOnce_35 : decode cX3_weaveOnce 35 = .ok (.iload_n 2, 1) := by decide +kernel
theorem dX3_weaveOnce_36 : decode cX3_weaveOnce 36 = .ok (.invokevirtual 308, 3) := by decide +kernel
theorem dX3_weaveOnce_39 : decode cX3_weaveOnce 39 = .ok (.pop, 1) := by decide +kernel
theorem dX3_weaveOnce_40 : decode cX3_weaveOnce 40 = .ok (.iconst 0, 1) := by decide +kernel
theorem dX3_weaveOnce_41 : decode cX3_weaveOnce 41 = .ok (.istore 6, 2) := by decide +kernel
theorem dX3_weaveOnce_43 : decode cX3_weaveOnce 43 = .ok (.iload 6, 2) := by decide +kernel
theorem dX3_weaveOnce_45 : decode cX3_weaveOnce 45 = .ok (.bipush 6, 2) := by decide +kernel
theorem dX3_weaveOnce_47 : decode cX3_weaveOnce 47 = .ok (.if_icmp .ge 17, 3) := by decide +kernel
theorem dX3_weaveOnce_50 : decode cX3_weaveOnce 50 = .ok (.aload_n 0, 1) := by decide +kernel
theorem dX3_weaveOnce_51 : decode cX3_weaveOnce 51 = .ok (.iconst 2, 1) := by decide +kernel
theorem dX3_weaveOnce_52 : decode cX3_weaveOnce 52 = .ok (.iload_n 3, 1) := by decide +kernel
theorem dX3_weaveOnce_53 : decode cX3_weaveOnce 53 = .ok (.iconst (-1), 1) := by decide +kernel
theorem dX3_weaveOnce_54 : decode cX3_weaveOnce 54 = .ok (.invokevirtual 308, 3) := by decide +kernel
theorem dX3_weaveOnce_57 : decode cX3_weaveOnce 57 = .ok (.pop, 1) := by decide +kernel
theorem dX3_weaveOnce_58 : decode cX3_weaveOnce 58 = .ok (.iinc 6 1, 3) := by decide +kernel
theorem dX3_weaveOnce_61 : decode cX3_weaveOnce 61 = .ok (.goto (-18), 3) := by decide +kernel
theorem dX3_weaveOnce_64 : decode cX3_weaveOnce 64 = .ok (.iconst 0, 1) := by decide +kernel
theorem dX3_weaveOnce_65 : decode cX3_weaveOnce 65 = .ok (.istore 6, 2) := by decide +kernel
theorem dX3_weaveOnce_67 : decode cX3_weaveOnce 67 = .ok (.iload 6, 2) := by decide +kernel
theorem dX3_weaveOnce_69 : decode cX3_weaveOnce 69 = .ok (.iload 4, 2) := by decide +kernel
theorem dX3_weaveOnce_71 : decode cX3_weaveOnce 71 = .ok (.if_icmp .ge 18, 3) := by decide +kernel
theorem dX3_weaveOnce_74 : decode cX3_weaveOnce 74 = .ok (.aload_n 0, 1) := by decide +kernel
theorem dX3_weaveOnce_75 : decode cX3_weaveOnce 75 = .ok (.iconst 2, 1) := by decide +kernel
theorem dX3_weaveOnce_76 : decode cX3_weaveOnce 76 = .ok (.iload 5, 2) := by decide +kernel
theorem dX3_weaveOnce_78 : decode cX3_weaveOnce 78 = .ok (.iconst (-1), 1) := by decide +kernel
theorem dX3_weaveOnce_79 : decode cX3_weaveOnce 79 = .ok (.invokevirtual 308, 3) := by decide +kernel
theorem dX3_weaveOnce_82 : decode cX3_weaveOnce 82 = .ok (.pop, 1) := by decide +kernel
theorem dX3_weaveOnce_83 : decode cX3_weaveOnce 83 = .ok (.iinc 6 1, 3) := by decide +kernel
theorem dX3_weaveOnce_86 : decode cX3_weaveOnce 86 = .ok (.goto (-19), 3) := by decide +kernel
theorem dX3_weaveOnce_89 : decode cX3_weaveOnce 89 = .ok (.aload_n 0, 1) := by decide +kernel
theorem dX3_weaveOnce_90 : decode cX3_weaveOnce 90 = .ok (.iconst 3, 1) := by decide +kernel
theorem dX3_weaveOnce_91 : decode cX3_weaveOnce 91 = .ok (.iload_n 3, 1) := by decide +kernel
theorem dX3_weaveOnce_92 : decode cX3_weaveOnce 92 = .ok (.iconst (-1), 1) := by decide +kernel
theorem dX3_weaveOnce_93 : decode cX3_weaveOnce 93 = .ok (.invokevirtual 308, 3) := by decide +kernel
theorem dX3_weaveOnce_96 : decode cX3_weaveOnce 96 = .ok (.pop, 1) := by decide +kernel
theorem dX3_weaveOnce_97 : decode cX3_weaveOnce 97 = .ok (.iconst 0, 1) := by decide +kernel
theorem dX3_weaveOnce_98 : decode cX3_weaveOnce 98 = .ok (.istore 6, 2) := by decide +kernel
theorem dX3_weaveOnce_100 : decode cX3_weaveOnce 100 = .ok (.iload 6, 2) := by decide +kernel
theorem dX3_weaveOnce_102 : decode cX3_weaveOnce 102 = .ok (.bipush 6, 2) := by decide +kernel
theorem dX3_weaveOnce_104 : decode cX3_weaveOnce 104 = .ok (.if_icmp .ge 18, 3) := by decide +kernel
theorem dX3_weaveOnce_107 : decode cX3_weaveOnce 107 = .ok (.aload_n 0, 1) := by decide +kernel
theorem dX3_weaveOnce_108 : decode cX3_weaveOnce 108 = .ok (.iconst 2, 1) := by decide +kernel
theorem dX3_weaveOnce_109 : decode cX3_weaveOnce 109 = .ok (.iload 5, 2) := by decide +kernel
theorem dX3_weaveOnce_111 : decode cX3_weaveOnce 111 = .ok (.iconst (-1), 1) := by decide +kernel
theorem dX3_weaveOnce_112 : decode cX3_weaveOnce 112 = .ok (.invokevirtual 308, 3) := by decide +kernel
theorem dX3_weaveOnce_115 : decode cX3_weaveOnce 115 = .ok (.pop, 1) := by decide +kernel
theorem dX3_weaveOnce_116 : decode cX3_weaveOnce 116 = .ok (.iinc 6 1, 3) := by decide +kernel
theorem dX3_weaveOnce_119 : decode cX3_weaveOnce 119 = .ok (.goto (-19), 3) := by decide +kernel
theorem dX3_weaveOnce_122 : decode cX3_weaveOnce 122 = .ok (.aload_n 0, 1) := by decide +kernel
theorem dX3_weaveOnce_123 : decode cX3_weaveOnce 123 = .ok (.iconst 3, 1) := by decide +kernel
theorem dX3_weaveOnce_124 : decode cX3_weaveOnce 124 = .ok (.iload 5, 2) := by decide +kernel
theorem dX3_weaveOnce_126 : decode cX3_weaveOnce 126 = .ok (.iconst (-1), 1) := by decide +kernel
theorem dX3_weaveOnce_127 : decode cX3_weaveOnce 127 = .ok (.invokevirtual 308, 3) := by decide +kernel
theorem dX3_weaveOnce_130 : decode cX3_weaveOnce 130 = .ok (.pop, 1) := by decide +kernel
theorem dX3_weaveOnce_131 : decode cX3_weaveOnce 131 = .ok (.aload_n 0, 1) := by decide +kernel
theorem dX3_weaveOnce_132 : decode cX3_weaveOnce 132 = .ok (.getfield 89, 3) := by decide +kernel
theorem dX3_weaveOnce_135 : decode cX3_weaveOnce 135 = .ok (.ifCond .le 17, 3) := by decide +kernel
theorem dX3_weaveOnce_138 : decode cX3_weaveOnce 138 = .ok (.aload_n 0, 1) := by decide +kernel
theorem dX3_weaveOnce_139 : decode cX3_weaveOnce 139 = .ok (.getfield 39, 3) := by decide +kernel
theorem dX3_weaveOnce_142 : decode cX3_weaveOnce 142 = .ok (.aload_n 0, 1) := by decide +kernel
theorem dX3_weaveOnce_143 : decode cX3_weaveOnce 143 = .ok (.getfield 89, 3) := by decide +kernel
theorem dX3_weaveOnce_146 : decode cX3_weaveOnce 146 = .ok (.iconst 1, 1) := by decide +kernel
theorem dX3_weaveOnce_147 : decode cX3_weaveOnce 147 = .ok (.isub, 1) := by decide +kernel
theorem dX3_weaveOnce_148 : decode cX3_weaveOnce 148 = .ok (.iaload, 1) := by decide +kernel
theorem dX3_weaveOnce_149 : decode cX3_weaveOnce 149 = .ok (.goto 4, 3) := by decide +kernel
theorem dX3_weaveOnce_152 : decode cX3_weaveOnce 152 = .ok (.iconst 0, 1) := by decide +kernel
theorem dX3_weaveOnce_153 : decode cX3_weaveOnce 153 = .ok (.ireturn, 1) := by decide +kernel
theorem dX5_init_0 : decode cX5_init 0 = .ok (.aload_n 0, 1) := by decide +kernel
theorem dX5_init_1 : decode cX5_init 1 = .ok (.invokespecial 3, 3) := by decide +kernel
theorem dX5_init_4 : decode cX5_init 4 = .ok (.aload_n 0, 1) := by decide +kernel
theorem dX5_init_5 : decode cX5_init 5 = .ok (.iconst 2, 1) := by decide +kernel
theorem dX5_init_6 : decode cX5_init 6 = .ok (.newarray .int, 2) := by decide +kernel
theorem dX5_init_8 : decode cX5_init 8 = .ok (.putfield 9, 3) := by decide +kernel
theorem dX5_init_11 : decode cX5_init 11 = .ok (.aload_n 0, 1) := by decide +kernel
theorem dX5_init_12 : decode cX5_init 12 = .ok (.iconst 2, 1) := by decide +kernel
theorem dX5_init_13 : decode cX5_init 13 = .ok (.newarray .int, 2) := by decide +kernel
theorem dX5_init_15 : decode cX5_init 15 = .ok (.putfield 15, 3) := by decide +kernel
theorem dX5_init_18 : decode cX5_init 18 = .ok (.aload_n 0, 1) := by decide +kernel
theorem dX5_init_19 : decode cX5_init 19 = .ok (.aload_n 1, 1) := by decide +kernel
theorem dX5_init_20 : decode cX5_init 20 = .ok (.putfield 18, 3) := by decide +kernel
theorem dX5_init_23 : decode cX5_init 23 = .ok (.return_, 1) := by decide +kernel
theorem dX5_judge_0 : decode cX5_judge 0 = .ok (.aload_n 0, 1) := by decide +kernel
theorem dX5_judge_1 : decode cX5_judge 1 = .ok (.iload_n 2, 1) := by decide +kernel
theorem dX5_judge_2 : decode cX5_judge 2 = .ok (.invokevirtual 22, 3) := by decide +kernel
theorem dX5_judge_5 : decode cX5_judge 5 = .ok (.aload_n 0, 1) := by decide +kernel
theorem dX5_judge_6 : decode cX5_judge 6 = .ok (.iconst 0, 1) := by decide +kernel
theorem dX5_judge_7 : decode cX5_judge 7 = .ok (.putfield 26, 3) := by decide +kernel
theorem dX5_judge_10 : decode cX5_judge 10 = .ok (.aload_n 0, 1) := by decide +kernel
theorem dX5_judge_11 : decode cX5_judge 11 = .ok (.iconst (-1), 1) := by decide +kernel
theorem dX5_judge_12 : decode cX5_judge 12 = .ok (.putfield 30, 3) := by decide +kernel
theorem dX5_judge_15 : decode cX5_judge 15 = .ok (.aload_n 0, 1) := by decide +kernel
theorem dX5_judge_16 : decode cX5_judge 16 = .ok (.iconst 0, 1) := by decide +kernel
theorem dX5_judge_17 : decode cX5_judge 17 = .ok (.putfield 33, 3) := by decide +kernel
theorem dX5_judge_20 : decode cX5_judge 20 = .ok (.aload_n 0, 1) := by decide +kernel
theorem dX5_judge_21 : decode cX5_judge 21 = .ok (.iconst 0, 1) := by decide +kernel
theorem dX5_judge_22 : decode cX5_judge 22 = .ok (.putfield 36, 3) := by decide +kernel
theorem dX5_judge_25 : decode cX5_judge 25 = .ok (.iconst 0, 1) := by decide +kernel
theorem dX5_judge_26 : decode cX5_judge 26 = .ok (.istore_n 3, 1) := by decide +kernel
theorem dX5_judge_27 : decode cX5_judge 27 = .ok (.iload_n 3, 1) := by decide +kernel
theorem dX5_judge_28 : decode cX5_judge 28 = .ok (.sipush 600, 3) := by decide +kernel
theorem dX5_judge_31 : decode cX5_judge 31 = .ok (.if_icmp .ge 29, 3) := by decide +kernel
theorem dX5_judge_34 : decode cX5_judge 34 = .ok (.aload_n 0, 1) := by decide +kernel
theorem dX5_judge_35 : decode cX5_judge 35 = .ok (.iload_n 1, 1) := by decide +kernel
theorem dX5_judge_36 : decode cX5_judge 36 = .ok (.invokevirtual 39, 3) := by decide +kernel
theorem dX5_judge_39 : decode cX5_judge 39 = .ok (.ifCond .eq 21, 3) := by decide +kernel
theorem dX5_judge_42 : decode cX5_judge 42 = .ok (.aload_n 0, 1) := by decide +kernel
theorem dX5_judge_43 : decode cX5_judge 43 = .ok (.getfield 26, 3) := by decide +kernel
theorem dX5_judge_46 : decode cX5_judge 46 = .ok (.ifCond .ne 8, 3) := by decide +kernel
theorem dX5_judge_49 : decode cX5_judge 49 = .ok (.aload_n 0, 1) := by decide +kernel
theorem dX5_judge_50 : decode cX5_judge 50 = .ok (.iload_n 1, 1) := by decide +kernel
theorem dX5_judge_51 : decode cX5_judge 51 = .ok (.invokevirtual 43, 3) := by decide +kernel
theorem dX5_judge_54 : decode cX5_judge 54 = .ok (.iinc 3 1, 3) := by decide +kernel
theorem dX5_judge_57 : decode cX5_judge 57 = .ok (.goto (-30), 3) := by decide +kernel
theorem dX5_judge_60 : decode cX5_judge 60 = .ok (.aload_n 0, 1) := by decide +kernel
theorem dX5_judge_61 : decode cX5_judge 61 = .ok (.getfield 46, 3) := by decide +kernel
theorem dX5_judge_64 : decode cX5_judge 64 = .ok (.ifCond .eq 12, 3) := by decide +kernel
theorem dX5_judge_67 : decode cX5_judge 67 = .ok (.aload_n 0, 1) := by decide +kernel
theorem dX5_judge_68 : decode cX5_judge 68 = .ok (.iconst 1, 1) := by decide +kernel
theorem dX5_judge_69 : decode cX5_judge 69 = .ok (.aload_n 0, 1) := by decide +kernel
theorem dX5_judge_70 : decode cX5_judge 70 = .ok (.getfield 50, 3) := by decide +kernel
theorem dX5_judge_73 : decode cX5_judge 73 = .ok (.invokevirtual 53, 3) := by decide +kernel
theorem dX5_judge_76 : decode cX5_judge 76 = .ok (.return_, 1) := by decide +kernel
theorem dX5_pour_0 : decode cX5_pour 0 = .ok (.aload_n 0, 1) := by decide +kernel
theorem dX5_pour_1 : decode cX5_pour 1 = .ok (.iload_n 2, 1) := by decide +kernel
theorem dX5_pour_2 : decode cX5_pour 2 = .ok (.invokevirtual 22, 3) := by decide +kernel
theorem dX5_pour_5 : decode cX5_pour 5 = .ok (.aload_n 3, 1) := by decide +kernel
theorem dX5_pour_6 : decode cX5_pour 6 = .ok (.iload_n 1, 1) := by decide +kernel
theorem dX5_pour_7 : decode cX5_pour 7 = .ok (.iload 4, 2) := by decide +kernel
theorem dX5_pour_9 : decode cX5_pour 9 = .ok (.invokevirtual 57, 3) := by decide +kernel
theorem dX5_pour_12 : decode cX5_pour 12 = .ok (.iconst 0, 1) := by decide +kernel
theorem dX5_pour_13 : decode cX5_pour 13 = .ok (.istore 5, 2) := by decide +kernel
theorem dX5_pour_15 : decode cX5_pour 15 = .ok (.iload 5, 2) := by decide +kernel
theorem dX5_pour_17 : decode cX5_pour 17 = .ok (.sipush 600, 3) := by decide +kernel
theorem dX5_pour_20 : decode cX5_pour 20 = .ok (.if_icmp .ge 40, 3) := by decide +kernel
theorem dX5_pour_23 : decode cX5_pour 23 = .ok (.aload_n 0, 1) := by decide +kernel
theorem dX5_pour_24 : decode cX5_pour 24 = .ok (.iload_n 1, 1) := by decide +kernel
theorem dX5_pour_25 : decode cX5_pour 25 = .ok (.invokevirtual 39, 3) := by decide +kernel
theorem dX5_pour_28 : decode cX5_pour 28 = .ok (.ifCond .eq 32, 3) := by decide +kernel
theorem dX5_pour_31 : decode cX5_pour 31 = .ok (.aload_n 3, 1) := by decide +kernel
theorem dX5_pour_32 : decode cX5_pour 32 = .ok (.iload_n 1, 1) := by decide +kernel
theorem dX5_pour_33 : decode cX5_pour 33 = .ok (.iload 4, 2) := by decide +kernel
theorem dX5_pour_35 : decode cX5_pour 35 = .ok (.aload_n 0, 1) := by decide +kernel
theorem dX5_pour_36 : decode cX5_pour 36 = .ok (.getfield 62, 3) := by decide +kernel
theorem dX5_pour_39 : decode cX5_pour 39 = .ok (.aload_n 0, 1) := by decide +kernel
theorem dX5_pour_40 : decode cX5_pour 40 = .ok (.getfield 9, 3) := by decide +kernel
theorem dX5_pour_43 : decode cX5_pour 43 = .ok (.iconst 0, 1) := by decide +kernel
theorem dX5_pour_44 : decode cX5_pour 44 = .ok (.iaload, 1) := by decide +kernel
theorem dX5_pour_45 : decode cX5_pour 45 = .ok (.aload_n 0, 1) := by decide +kernel
theorem dX5_pour_46 : decode cX5_pour 46 = .ok (.getfield 9, 3) := by decide +kernel
theorem dX5_pour_49 : decode cX5_pour 49 = .ok (.iconst 1, 1) := by decide +kernel
theorem dX5_pour_50 : decode cX5_pour 50 = .ok (.iaload, 1) := by decide +kernel
theorem dX5_pour_51 : decode cX5_pour 51 = .ok (.invokevirtual 65, 3) := by decide +kernel
theorem dX5_pour_54 : decode cX5_pour 54 = .ok (.iinc 5 1, 3) := by decide +kernel
theorem dX5_pour_57 : decode cX5_pour 57 = .ok (.goto (-42), 3) := by decide +kernel
theorem dX5_pour_60 : decode cX5_pour 60 = .ok (.return_, 1) := by decide +kernel
theorem dX5_rewind_0 : decode cX5_rewind 0 = .ok (.aload_n 0, 1) := by decide +kernel
theorem dX5_rewind_1 : decode cX5_rewind 1 = .ok (.iload_n 1, 1) := by decide +kernel
theorem dX5_rewind_2 : decode cX5_rewind 2 = .ok (.sipush 600, 3) := by decide +kernel
theorem dX5_rewind_5 : decode cX5_rewind 5 = .ok (.invokestatic 69, 3) := by decide +kernel
theorem dX5_rewind_8 : decode cX5_rewind 8 = .ok (.putfield 75, 3) := by decide +kernel
theorem dX5_rewind_11 : decode cX5_rewind 11 = .ok (.aload_n 0, 1) := by decide +kernel
theorem dX5_rewind_12 : decode cX5_rewind 12 = .ok (.iconst 0, 1) := by decide +kernel
theorem dX5_rewind_13 : decode cX5_rewind 13 = .ok (.putfield 78, 3) := by decide +kernel
theorem dX5_rewind_16 : decode cX5_rewind 16 = .ok (.aload_n 0, 1) := by decide +kernel
theorem dX5_rewind_17 : decode cX5_rewind 17 = .ok (.iconst 0, 1) := by decide +kernel
theorem dX5_rewind_18 : decode cX5_rewind 18 = .ok (.putfield 46, 3) := by decide +kernel
theorem dX5_rewind_21 : decode cX5_rewind 21 = .ok (.return_, 1) := by decide +kernel
theorem dX5_blame_0 : decode cX5_blame 0 = .ok (.aload_n 0, 1) := by decide +kernel
theorem dX5_blame_1 : decode cX5_blame 1 = .ok (.iload_n 1, 1) := by decide +kernel
theorem dX5_blame_2 : decode cX5_blame 2 = .ok (.putfield 26, 3) := by decide +kernel
theorem dX5_blame_5 : decode cX5_blame 5 = .ok (.aload_n 0, 1) := by decide +kernel
theorem dX5_blame_6 : decode cX5_blame 6 = .ok (.iload_n 2, 1) := by decide +kernel
theorem dX5_blame_7 : decode cX5_blame 7 = .ok (.putfield 30, 3) := by decide +kernel
theorem dX5_blame_10 : decode cX5_blame 10 = .ok (.return_, 1) := by decide +kernel
theorem dX5_judgeLine_0 : decode cX5_judgeLine 0 = .ok (.aload_n 0, 1) := by decide +kernel
theorem dX5_judgeLine_1 : decode cX5_judgeLine 1 = .ok (.iload_n 1, 1) := by decide +kernel
theorem dX5_judgeLine_2 : decode cX5_judgeLine 2 = .ok (.invokevirtual 81, 3) := by decide +kernel
theorem dX5_judgeLine_5 : decode cX5_judgeLine 5 = .ok (.ifCond .eq 15, 3) := by decide +kernel
theorem dX5_judgeLine_8 : decode cX5_judgeLine 8 = .ok (.aload_n 0, 1) := by decide +kernel
theorem dX5_judgeLine_9 : decode cX5_judgeLine 9 = .ok (.iconst 3, 1) := by decide +kernel
theorem dX5_judgeLine_10 : decode cX5_judgeLine 10 = .ok (.aload_n 0, 1) := by decide +kernel
theorem dX5_judgeLine_11 : decode cX5_judgeLine 11 = .ok (.getfield 84, 3) := by decide +kernel
theorem dX5_judgeLine_14 : decode cX5_judgeLine 14 = .ok (.invokevirtual 53, 3) := by decide +kernel
theorem dX5_judgeLine_17 : decode cX5_judgeLine 17 = .ok (.goto 109, 3) := by decide +kernel
theorem dX5_judgeLine_20 : decode cX5_judgeLine 20 = .ok (.getstatic 87, 3) := by decide +kernel
theorem dX5_judgeLine_23 : decode cX5_judgeLine 23 = .ok (.aload_n 0, 1) := by decide +kernel
theorem dX5_judgeLine_24 : decode cX5_judgeLine 24 = .ok (.getfield 62, 3) := by decide +kernel
theorem dX5_judgeLine_27 : decode cX5_judgeLine 27 = .ok (.iaload, 1) := by decide +kernel
theorem dX5_judgeLine_28 : decode cX5_judgeLine 28 = .ok (.ifCond .le 51, 3) := by decide +kernel
theorem dX5_judgeLine_31 : decode cX5_judgeLine 31 = .ok (.aload_n 0, 1) := by decide +kernel
theorem dX5_judgeLine_32 : decode cX5_judgeLine 32 = .ok (.getfield 9, 3) := by decide +kernel
theorem dX5_judgeLine_35 : decode cX5_judgeLine 35 = .ok (.iconst 0, 1) := by decide +kernel
theorem dX5_judgeLine_36 : decode cX5_judgeLine 36 = .ok (.iaload, 1) := by decide +kernel
theorem dX5_judgeLine_37 : decode cX5_judgeLine 37 = .ok (.getstatic 90, 3) := by decide +kernel
theorem dX5_judgeLine_40 : decode cX5_judgeLine 40 = .ok (.aload_n 0, 1) := by decide +kernel
theorem dX5_judgeLine_41 : decode cX5_judgeLine 41 = .ok (.getfield 62, 3) := by decide +kernel
theorem dX5_judgeLine_44 : decode cX5_judgeLine 44 = .ok (.iaload, 1) := by decide +kernel
theorem dX5_judgeLine_45 : decode cX5_judgeLine 45 = .ok (.if_icmp .lt 20, 3) := by decide +kernel
theorem dX5_judgeLine_48 : decode cX5_judgeLine 48 = .ok (.aload_n 0, 1) := by decide +kernel
theorem dX5_judgeLine_49 : decode cX5_judgeLine 49 = .ok (.getfield 9, 3) := by decide +kernel
theorem dX5_judgeLine_52 : decode cX5_judgeLine 52 = .ok (.iconst 0, 1) := by decide +kernel
theorem dX5_judgeLine_53 : decode cX5_judgeLine 53 = .ok (.iaload, 1) := by decide +kernel
theorem dX5_judgeLine_54 : decode cX5_judgeLine 54 = .ok (.getstatic 93, 3) := by decide +kernel
theorem dX5_judgeLine_57 : decode cX5_judgeLine 57 = .ok (.aload_n 0, 1) := by decide +kernel
theorem dX5_judgeLine_58 : decode cX5_judgeLine 58 = .ok (.getfield 62, 3) := by decide +kernel
theorem dX5_judgeLine_61 : decode cX5_judgeLine 61 = .ok (.iaload, 1) := by decide +kernel
theorem dX5_judgeLine_62 : decode cX5_judgeLine 62 = .ok (.if_icmp .le 17, 3) := by decide +kernel
theorem dX5_judgeLine_65 : decode cX5_judgeLine 65 = .ok (.aload_n 0, 1) := by decide +kernel
theorem dX5_judgeLine_66 : decode cX5_judgeLine 66 = .ok (.iconst 2, 1) := by decide +kernel
theorem dX5_judgeLine_67 : decode cX5_judgeLine 67 = .ok (.aload_n 0, 1) := by decide +kernel
theorem dX5_judgeLine_68 : decode cX5_judgeLine 68 = .ok (.getfield 15, 3) := by decide +kernel
theorem dX5_judgeLine_71 : decode cX5_judgeLine 71 = .ok (.iconst 0, 1) := by decide +kernel
theorem dX5_judgeLine_72 : decode cX5_judgeLine 72 = .ok (.iaload, 1) := by decide +kernel
theorem dX5_judgeLine_73 : decode cX5_judgeLine 73 = .ok (.invokevirtual 53, 3) := by decide +kernel
theorem dX5_judgeLine_76 : decode cX5_judgeLine 76 = .ok (.goto 50, 3) := by decide +kernel
theorem dX5_judgeLine_79 : decode cX5_judgeLine 79 = .ok (.getstatic 87, 3) := by decide +kernel
theorem dX5_judgeLine_82 : decode cX5_judgeLine 82 = .ok (.aload_n 0, 1) := by decide +kernel
theorem dX5_judgeLine_83 : decode cX5_judgeLine 83 = .ok (.getfield 62, 3) := by decide +kernel
theorem dX5_judgeLine_86 : decode cX5_judgeLine 86 = .ok (.iaload, 1) := by decide +kernel
theorem dX5_judgeLine_87 : decode cX5_judgeLine 87 = .ok (.iconst 1, 1) := by decide +kernel
theorem dX5_judgeLine_88 : decode cX5_judgeLine 88 = .ok (.if_icmp .le 38, 3) := by decide +kernel
theorem dX5_judgeLine_91 : decode cX5_judgeLine 91 = .ok (.aload_n 0, 1) := by decide +kernel
theorem dX5_judgeLine_92 : decode cX5_judgeLine 92 = .ok (.getfield 9, 3) := by decide +kernel
theorem dX5_judgeLine_95 : decode cX5_judgeLine 95 = .ok (.iconst 1, 1) := by decide +kernel
theorem dX5_judgeLine_96 : decode cX5_judgeLine 96 = .ok (.iaload, 1) := by decide +kernel
theorem dX5_judgeLine_97 : decode cX5_judgeLine 97 = .ok (.getstatic 96, 3) := by decide +kernel
theorem dX5_judgeLine_100 : decode cX5_judgeLine 100 = .ok (.aload_n 0, 1) := by decide +kernel
theorem dX5_judgeLine_101 : decode cX5_judgeLine 101 = .ok (.getfield 62, 3) := by decide +kernel
theorem dX5_judgeLine_104 : decode cX5_judgeLine 104 = .ok (.iaload, 1) := by decide +kernel
theorem dX5_judgeLine_105 : decode cX5_judgeLine 105 = .ok (.if_icmp .gt 10, 3) := by decide +kernel
theorem dX5_judgeLine_108 : decode cX5_judgeLine 108 = .ok (.aload_n 0, 1) := by decide +kernel
theorem dX5_judgeLine_109 : decode cX5_judgeLine 109 = .ok (.invokevirtual 99, 3) := by decide +kernel
theorem dX5_judgeLine_112 : decode cX5_judgeLine 112 = .ok (.ifCond .eq 14, 3) := by decide +kernel
theorem dX5_judgeLine_115 : decode cX5_judgeLine 115 = .ok (.aload_n 0, 1) := by decide +kernel
theorem dX5_judgeLine_116 : decode cX5_judgeLine 116 = .ok (.iconst 2, 1) := by decide +kernel
theorem dX5_judgeLine_117 : decode cX5_judgeLine 117 = .ok (.aload_n 0, 1) := by decide +kernel
theorem dX5_judgeLine_118 : decode cX5_judgeLine 118 = .ok (.getfield 15, 3) := by decide +kernel
theorem dX5_judgeLine_121 : decode cX5_judgeLine 121 = .ok (.iconst 1, 1) := by decide +kernel
theorem dX5_judgeLine_122 : decode cX5_judgeLine 122 = .ok (.iaload, 1) := by decide +kernel
theorem dX5_judgeLine_123 : decode cX5_judgeLine 123 = .ok (.invokevirtual 53, 3) := by decide +kernel
theorem dX5_judgeLine_126 : decode cX5_judgeLine 126 = .ok (.return_, 1) := by decide +kernel
theorem dX5_isScanBackwards_0 : decode cX5_isScanBackwards 0 = .ok (.aload_n 0, 1) := by decide +kernel
theorem dX5_isScanBackwards_1 : decode cX5_isScanBackwards 1 = .ok (.getfield 62, 3) := by decide +kernel
theorem dX5_isScanBackwards_4 : decode cX5_isScanBackwards 4 = .ok (.bipush 8, 2) := by decide +kernel
theorem dX5_isScanBackwards_6 : decode cX5_isScanBackwards 6 = .ok (.if_icmp .ne 22, 3) := by decide +kernel
theorem dX5_isScanBackwards_9 : decode cX5_isScanBackwards 9 = .ok (.aload_n 0, 1) := by decide +kernel
theorem dX5_isScanBackwards_10 : decode cX5_isScanBackwards 10 = .ok (.getfield 9, 3) := by decide +kernel
theorem dX5_isScanBackwards_13 : decode cX5_isScanBackwards 13 = .ok (.iconst 1, 1) := by decide +kernel
theorem dX5_isScanBackwards_14 : decode cX5_isScanBackwards 14 = .ok (.iaload, 1) := by decide +kernel
theorem dX5_isScanBackwards_15 : decode cX5_isScanBackwards 15 = .ok (.aload_n 0, 1) := by decide +kernel
theorem dX5_isScanBackwards_16 : decode cX5_isScanBackwards 16 = .ok (.getfield 9, 3) := by decide +kernel
theorem dX5_isScanBackwards_19 : decode cX5_isScanBackwards 19 = .ok (.iconst 0, 1) := by decide +kernel
theorem dX5_isScanBackwards_20 : decode cX5_isScanBackwards 20 = .ok (.iaload, 1) := by decide +kernel
theorem dX5_isScanBackwards_21 : decode cX5_isScanBackwards 21 = .ok (.if_icmp .ge 7, 3) := by decide +kernel
theorem dX5_isScanBackwards_24 : decode cX5_isScanBackwards 24 = .ok (.iconst 1, 1) := by decide +kernel
theorem dX5_isScanBackwards_25 : decode cX5_isScanBackwards 25 = .ok (.goto 4, 3) := by decide +kernel
theorem dX5_isScanBackwards_28 : decode cX5_isScanBackwards 28 = .ok (.iconst 0, 1) := by decide +kernel
theorem dX5_isScanBackwards_29 : decode cX5_isScanBackwards 29 = .ok (.ireturn, 1) := by decide +kernel
theorem dX5_isTooMuch_0 : decode cX5_isTooMuch 0 = .ok (.iload_n 1, 1) := by decide +kernel
theorem dX5_isTooMuch_1 : decode cX5_isTooMuch 1 = .ok (.iconst 1, 1) := by decide +kernel
theorem dX5_isTooMuch_2 : decode cX5_isTooMuch 2 = .ok (.if_icmp .ne 42, 3) := by decide +kernel
theorem dX5_isTooMuch_5 : decode cX5_isTooMuch 5 = .ok (.aload_n 0, 1) := by decide +kernel
theorem dX5_isTooMuch_6 : decode cX5_isTooMuch 6 = .ok (.getfield 62, 3) := by decide +kernel
theorem dX5_isTooMuch_9 : decode cX5_isTooMuch 9 = .ok (.bipush 9, 2) := by decide +kernel
theorem dX5_isTooMuch_11 : decode cX5_isTooMuch 11 = .ok (.if_icmp .ne 33, 3) := by decide +kernel
theorem dX5_isTooMuch_14 : decode cX5_isTooMuch 14 = .ok (.aload_n 0, 1) := by decide +kernel
theorem dX5_isTooMuch_15 : decode cX5_isTooMuch 15 = .ok (.dup, 1) := by decide +kernel
theorem dX5_isTooMuch_16 : decode cX5_isTooMuch 16 = .ok (.getfield 33, 3) := by decide +kernel
theorem dX5_isTooMuch_19 : decode cX5_isTooMuch 19 = .ok (.iconst 1, 1) := by decide +kernel
theorem dX5_isTooMuch_20 : decode cX5_isTooMuch 20 = .ok (.iadd, 1) := by decide +kernel
theorem dX5_isTooMuch_21 : decode cX5_isTooMuch 21 = .ok (.putfield 33, 3) := by decide +kernel
theorem dX5_isTooMuch_24 : decode cX5_isTooMuch 24 = .ok (.aload_n 0, 1) := by decide +kernel
theorem dX5_isTooMuch_25 : decode cX5_isTooMuch 25 = .ok (.iconst 0, 1) := by decide +kernel
theorem dX5_isTooMuch_26 : decode cX5_isTooMuch 26 = .ok (.putfield 36, 3) := by decide +kernel
theorem dX5_isTooMuch_29 : decode cX5_isTooMuch 29 = .ok (.aload_n 0, 1) := by decide +kernel
theorem dX5_isTooMuch_30 : decode cX5_isTooMuch 30 = .ok (.getfield 33, 3) := by decide +kernel
theorem dX5_isTooMuch_33 : decode cX5_isTooMuch 33 = .ok (.bipush 7, 2) := by decide +kernel
theorem dX5_isTooMuch_35 : decode cX5_isTooMuch 35 = .ok (.if_icmp .le 7, 3) := by decide +kernel
theorem dX5_isTooMuch_38 : decode cX5_isTooMuch 38 = .ok (.iconst 1, 1) := by decide +kernel
theorem dX5_isTooMuch_39 : decode cX5_isTooMuch 39 = .ok (.goto 4, 3) := by decide +kernel
theorem dX5_isTooMuch_42 : decode cX5_isTooMuch 42 = .ok (.iconst 0, 1) := by decide +kernel
theorem dX5_isTooMuch_43 : decode cX5_isTooMuch 43 = .ok (.ireturn, 1) := by decide +kernel
theorem dX5_isTooMuch_44 : decode cX5_isTooMuch 44 = .ok (.aload_n 0, 1) := by decide +kernel
theorem dX5_isTooMuch_45 : decode cX5_isTooMuch 45 = .ok (.dup, 1) := by decide +kernel
theorem dX5_isTooMuch_46 : decode cX5_isTooMuch 46 = .ok (.getfield 36, 3) := by decide +kernel
theorem dX5_isTooMuch_49 : decode cX5_isTooMuch 49 = .ok (.iconst 1, 1) := by decide +kernel
theorem dX5_isTooMuch_50 : decode cX5_isTooMuch 50 = .ok (.iadd, 1) := by decide +kernel
theorem dX5_isTooMuch_51 : decode cX5_isTooMuch 51 = .ok (.putfield 36, 3) := by decide +kernel
theorem dX5_isTooMuch_54 : decode cX5_isTooMuch 54 = .ok (.iload_n 1, 1) := by decide +kernel
theorem dX5_isTooMuch_55 : decode cX5_isTooMuch 55 = .ok (.iconst 1, 1) := by decide +kernel
theorem dX5_isTooMuch_56 : decode cX5_isTooMuch 56 = .ok (.if_icmp .ne 25, 3) := by decide +kernel
theorem dX5_isTooMuch_59 : decode cX5_isTooMuch 59 = .ok (.aload_n 0, 1) := by decide +kernel
theorem dX5_isTooMuch_60 : decode cX5_isTooMuch 60 = .ok (.getfield 33, 3) := by decide +kernel
theorem dX5_isTooMuch_63 : decode cX5_isTooMuch 63 = .ok (.ifCond .eq 12, 3) := by decide +kernel
theorem dX5_isTooMuch_66 : decode cX5_isTooMuch 66 = .ok (.aload_n 0, 1) := by decide +kernel
theorem dX5_isTooMuch_67 : decode cX5_isTooMuch 67 = .ok (.getfield 36, 3) := by decide +kernel
theorem dX5_isTooMuch_70 : decode cX5_isTooMuch 70 = .ok (.bipush 6, 2) := by decide +kernel
theorem dX5_isTooMuch_72 : decode cX5_isTooMuch 72 = .ok (.if_icmp .le 7, 3) := by decide +kernel
theorem dX5_isTooMuch_75 : decode cX5_isTooMuch 75 = .ok (.iconst 1, 1) := by decide +kernel
theorem dX5_isTooMuch_76 : decode cX5_isTooMuch 76 = .ok (.goto 4, 3) := by decide +kernel
theorem dX5_isTooMuch_79 : decode cX5_isTooMuch 79 = .ok (.iconst 0, 1) := by decide +kernel
theorem dX5_isTooMuch_80 : decode cX5_isTooMuch 80 = .ok (.ireturn, 1) := by decide +kernel
theorem dX5_isTooMuch_81 : decode cX5_isTooMuch 81 = .ok (.iload_n 1, 1) := by decide +kernel
theorem dX5_isTooMuch_82 : decode cX5_isTooMuch 82 = .ok (.iconst 2, 1) := by decide +kernel
theorem dX5_isTooMuch_83 : decode cX5_isTooMuch 83 = .ok (.if_icmp .ne 18, 3) := by decide +kernel
theorem dX5_isTooMuch_86 : decode cX5_isTooMuch 86 = .ok (.aload_n 0, 1) := by decide +kernel
theorem dX5_isTooMuch_87 : decode cX5_isTooMuch 87 = .ok (.getfield 36, 3) := by decide +kernel
theorem dX5_isTooMuch_90 : decode cX5_isTooMuch 90 = .ok (.bipush 40, 2) := by decide +kernel
theorem dX5_isTooMuch_92 : decode cX5_isTooMuch 92 = .ok (.if_icmp .le 7, 3) := by decide +kernel
theorem dX5_isTooMuch_95 : decode cX5_isTooMuch 95 = .ok (.iconst 1, 1) := by decide +kernel
theorem dX5_isTooMuch_96 : decode cX5_isTooMuch 96 = .ok (.goto 4, 3) := by decide +kernel
theorem dX5_isTooMuch_99 : decode cX5_isTooMuch 99 = .ok (.iconst 0, 1) := by decide +kernel
theorem dX5_isTooMuch_100 : decode cX5_isTooMuch 100 = .ok (.ireturn, 1) := by decide +kernel
theorem dX5_isTooMuch_101 : decode cX5_isTooMuch 101 = .ok (.iload_n 1, 1) := by decide +kernel
theorem dX5_isTooMuch_102 : decode cX5_isTooMuch 102 = .ok (.iconst 3, 1) := by decide +kernel
theorem dX5_isTooMuch_103 : decode cX5_isTooMuch 103 = .ok (.if_icmp .ne 16, 3) := by decide +kernel
theorem dX5_isTooMuch_106 : decode cX5_isTooMuch 106 = .ok (.aload_n 0, 1) := by decide +kernel
theorem dX5_isTooMuch_107 : decode cX5_isTooMuch 107 = .ok (.getfield 36, 3) := by decide +kernel
theorem dX5_isTooMuch_110 : decode cX5_isTooMuch 110 = .ok (.bipush 8, 2) := by decide +kernel
theorem dX5_isTooMuch_112 : decode cX5_isTooMuch 112 = .ok (.if_icmp .le 7, 3) := by decide +kernel
theorem dX5_isTooMuch_115 : decode cX5_isTooMuch 115 = .ok (.iconst 1, 1) := by decide +kernel
theorem dX5_isTooMuch_116 : decode cX5_isTooMuch 116 = .ok (.goto 4, 3) := by decide +kernel
theorem dX5_isTooMuch_119 : decode cX5_isTooMuch 119 = .ok (.iconst 0, 1) := by decide +kernel
theorem dX5_isTooMuch_120 : decode cX5_isTooMuch 120 = .ok (.ireturn, 1) := by decide +kernel
theorem dX5_readLine_0 : decode cX5_readLine 0 = .ok (.aload_n 0, 1) := by decide +kernel
theorem dX5_readLine_1 : decode cX5_readLine 1 = .ok (.invokevirtual 103, 3) := by decide +kernel
theorem dX5_readLine_4 : decode cX5_readLine 4 = .ok (.aload_n 0, 1) := by decide +kernel
theorem dX5_readLine_5 : decode cX5_readLine 5 = .ok (.getfield 106, 3) := by decide +kernel
theorem dX5_readLine_8 : decode cX5_readLine 8 = .ok (.ifCond .ne 5, 3) := by decide +kernel
theorem dX5_readLine_11 : decode cX5_readLine 11 = .ok (.iconst 0, 1) := by decide +kernel
theorem dX5_readLine_12 : decode cX5_readLine 12 = .ok (.ireturn, 1) := by decide +kernel
theorem dX5_readLine_13 : decode cX5_readLine 13 = .ok (.aload_n 0, 1) := by decide +kernel
theorem dX5_readLine_14 : decode cX5_readLine 14 = .ok (.aload_n 0, 1) := by decide +kernel
theorem dX5_readLine_15 : decode cX5_readLine 15 = .ok (.getfield 106, 3) := by decide +kernel
theorem dX5_readLine_18 : decode cX5_readLine 18 = .ok (.iconst 1, 1) := by decide +kernel
theorem dX5_readLine_19 : decode cX5_readLine 19 = .ok (.if_icmp .ne 11, 3) := by decide +kernel
theorem dX5_readLine_22 : decode cX5_readLine 22 = .ok (.aload_n 0, 1) := by decide +kernel
theorem dX5_readLine_23 : decode cX5_readLine 23 = .ok (.iload_n 1, 1) := by decide +kernel
theorem dX5_readLine_24 : decode cX5_readLine 24 = .ok (.invokevirtual 109, 3) := by decide +kernel
theorem dX5_readLine_27 : decode cX5_readLine 27 = .ok (.goto 4, 3) := by decide +kernel
theorem dX5_readLine_30 : decode cX5_readLine 30 = .ok (.iconst (-1), 1) := by decide +kernel
theorem dX5_readLine_31 : decode cX5_readLine 31 = .ok (.putfield 62, 3) := by decide +kernel
theorem dX5_readLine_34 : decode cX5_readLine 34 = .ok (.aload_n 0, 1) := by decide +kernel
theorem dX5_readLine_35 : decode cX5_readLine 35 = .ok (.getfield 62, 3) := by decide +kernel
theorem dX5_readLine_38 : decode cX5_readLine 38 = .ok (.iconst (-1), 1) := by decide +kernel
theorem dX5_readLine_39 : decode cX5_readLine 39 = .ok (.if_icmp .ne 10, 3) := by decide +kernel
theorem dX5_readLine_42 : decode cX5_readLine 42 = .ok (.aload_n 0, 1) := by decide +kernel
theorem dX5_readLine_43 : decode cX5_readLine 43 = .ok (.iconst 1, 1) := by decide +kernel
theorem dX5_readLine_44 : decode cX5_readLine 44 = .ok (.putfield 46, 3) := by decide +kernel
theorem dX5_readLine_47 : decode cX5_readLine 47 = .ok (.iconst 0, 1) := by decide +kernel
theorem dX5_readLine_48 : decode cX5_readLine 48 = .ok (.ireturn, 1) := by decide +kernel
theorem dX5_readLine_49 : decode cX5_readLine 49 = .ok (.aload_n 0, 1) := by decide +kernel
theorem dX5_readLine_50 : decode cX5_readLine 50 = .ok (.aload_n 0, 1) := by decide +kernel
theorem dX5_readLine_51 : decode cX5_readLine 51 = .ok (.getfield 50, 3) := by decide +kernel
theorem dX5_readLine_54 : decode cX5_readLine 54 = .ok (.putfield 84, 3) := by decide +kernel
theorem dX5_readLine_57 : decode cX5_readLine 57 = .ok (.aload_n 0, 1) := by decide +kernel
theorem dX5_readLine_58 : decode cX5_readLine 58 = .ok (.getfield 9, 3) := by decide +kernel
theorem dX5_readLine_61 : decode cX5_readLine 61 = .ok (.iconst 0, 1) := by decide +kernel
theorem dX5_readLine_62 : decode cX5_readLine 62 = .ok (.iconst (-1), 1) := by decide +kernel
theorem dX5_readLine_63 : decode cX5_readLine 63 = .ok (.iastore, 1) := by decide +kernel
theorem dX5_readLine_64 : decode cX5_readLine 64 = .ok (.aload_n 0, 1) := by decide +kernel
theorem dX5_readLine_65 : decode cX5_readLine 65 = .ok (.getfield 9, 3) := by decide +kernel
theorem dX5_readLine_68 : decode cX5_readLine 68 = .ok (.iconst 1, 1) := by decide +kernel
theorem dX5_readLine_69 : decode cX5_readLine 69 = .ok (.iconst (-1), 1) := by decide +kernel
theorem dX5_readLine_70 : decode cX5_readLine 70 = .ok (.iastore, 1) := by decide +kernel
theorem dX5_readLine_71 : decode cX5_readLine 71 = .ok (.iconst 0, 1) := by decide +kernel
theorem dX5_readLine_72 : decode cX5_readLine 72 = .ok (.istore_n 2, 1) := by decide +kernel
theorem dX5_readLine_73 : decode cX5_readLine 73 = .ok (.iload_n 2, 1) := by decide +kernel
theorem dX5_readLine_74 : decode cX5_readLine 74 = .ok (.getstatic 87, 3) := by decide +kernel
theorem dX5_readLine_77 : decode cX5_readLine 77 = .ok (.aload_n 0, 1) := by decide +kernel
theorem dX5_readLine_78 : decode cX5_readLine 78 = .ok (.getfield 62, 3) := by decide +kernel
theorem dX5_readLine_81 : decode cX5_readLine 81 = .ok (.iaload, 1) := by decide +kernel
theorem dX5_readLine_82 : decode cX5_readLine 82 = .ok (.if_icmp .ge 48, 3) := by decide +kernel
theorem dX5_readLine_85 : decode cX5_readLine 85 = .ok (.aload_n 0, 1) := by decide +kernel
theorem dX5_readLine_86 : decode cX5_readLine 86 = .ok (.invokevirtual 103, 3) := by decide +kernel
theorem dX5_readLine_89 : decode cX5_readLine 89 = .ok (.aload_n 0, 1) := by decide +kernel
theorem dX5_readLine_90 : decode cX5_readLine 90 = .ok (.getfield 106, 3) := by decide +kernel
theorem dX5_readLine_93 : decode cX5_readLine 93 = .ok (.iconst 2, 1) := by decide +kernel
theorem dX5_readLine_94 : decode cX5_readLine 94 = .ok (.if_icmp .eq 10, 3) := by decide +kernel
theorem dX5_readLine_97 : decode cX5_readLine 97 = .ok (.aload_n 0, 1) := by decide +kernel
theorem dX5_readLine_98 : decode cX5_readLine 98 = .ok (.iconst 1, 1) := by decide +kernel
theorem dX5_readLine_99 : decode cX5_readLine 99 = .ok (.putfield 46, 3) := by decide +kernel
theorem dX5_readLine_102 : decode cX5_readLine 102 = .ok (.iconst 0, 1) := by decide +kernel
theorem dX5_readLine_103 : decode cX5_readLine 103 = .ok (.ireturn, 1) := by decide +kernel
theorem dX5_readLine_104 : decode cX5_readLine 104 = .ok (.aload_n 0, 1) := by decide +kernel
theorem dX5_readLine_105 : decode cX5_readLine 105 = .ok (.getfield 9, 3) := by decide +kernel
theorem dX5_readLine_108 : decode cX5_readLine 108 = .ok (.iload_n 2, 1) := by decide +kernel
theorem dX5_readLine_109 : decode cX5_readLine 109 = .ok (.aload_n 0, 1) := by decide +kernel
theorem dX5_readLine_110 : decode cX5_readLine 110 = .ok (.getfield 113, 3) := by decide +kernel
theorem dX5_readLine_113 : decode cX5_readLine 113 = .ok (.iastore, 1) := by decide +kernel
theorem dX5_readLine_114 : decode cX5_readLine 114 = .ok (.aload_n 0, 1) := by decide +kernel
theorem dX5_readLine_115 : decode cX5_readLine 115 = .ok (.getfield 15, 3) := by decide +kernel
theorem dX5_readLine_118 : decode cX5_readLine 118 = .ok (.iload_n 2, 1) := by decide +kernel
theorem dX5_readLine_119 : decode cX5_readLine 119 = .ok (.aload_n 0, 1) := by decide +kernel
theorem dX5_readLine_120 : decode cX5_readLine 120 = .ok (.getfield 50, 3) := by decide +kernel
theorem dX5_readLine_123 : decode cX5_readLine 123 = .ok (.iastore, 1) := by decide +kernel
theorem dX5_readLine_124 : decode cX5_readLine 124 = .ok (.iinc 2 1, 3) := by decide +kernel
theorem dX5_readLine_127 : decode cX5_readLine 127 = .ok (.goto (-54), 3) := by decide +kernel
theorem dX5_readLine_130 : decode cX5_readLine 130 = .ok (.aload_n 0, 1) := by decide +kernel
theorem dX5_readLine_131 : decode cX5_readLine 131 = .ok (.invokevirtual 103, 3) := by decide +kernel
theorem dX5_readLine_134 : decode cX5_readLine 134 = .ok (.aload_n 0, 1) := by decide +kernel
theorem dX5_readLine_135 : decode cX5_readLine 135 = .ok (.aload_n 0, 1) := by decide +kernel
theorem dX5_readLine_136 : decode cX5_readLine 136 = .ok (.getfield 106, 3) := by decide +kernel
theorem dX5_readLine_139 : decode cX5_readLine 139 = .ok (.iconst 3, 1) := by decide +kernel
theorem dX5_readLine_140 : decode cX5_readLine 140 = .ok (.if_icmp .eq 7, 3) := by decide +kernel
theorem dX5_readLine_143 : decode cX5_readLine 143 = .ok (.iconst 1, 1) := by decide +kernel
theorem dX5_readLine_144 : decode cX5_readLine 144 = .ok (.goto 4, 3) := by decide +kernel
theorem dX5_readLine_147 : decode cX5_readLine 147 = .ok (.iconst 0, 1) := by decide +kernel
theorem dX5_readLine_148 : decode cX5_readLine 148 = .ok (.putfield 46, 3) := by decide +kernel
theorem dX5_readLine_151 : decode cX5_readLine 151 = .ok (.aload_n 0, 1) := by decide +kernel
theorem dX5_readLine_152 : decode cX5_readLine 152 = .ok (.getfield 46, 3) := by decide +kernel
theorem dX5_readLine_155 : decode cX5_readLine 155 = .ok (.ifCond .ne 7, 3) := by decide +kernel
theorem dX5_readLine_158 : decode cX5_readLine 158 = .ok (.iconst 1, 1) := by decide +kernel
theorem dX5_readLine_159 : decode cX5_readLine 159 = .ok (.goto 4, 3) := by decide +kernel
theorem dX5_readLine_162 : decode cX5_readLine 162 = .ok (.iconst 0, 1) := by decide +kernel
theorem dX5_readLine_163 : decode cX5_readLine 163 = .ok (.ireturn, 1) := by decide +kernel
theorem dX5_readToken_0 : decode cX5_readToken 0 = .ok (.aload_n 0, 1) := by decide +kernel
theorem dX5_readToken_1 : decode cX5_readToken 1 = .ok (.getfield 78, 3) := by decide +kernel
theorem dX5_readToken_4 : decode cX5_readToken 4 = .ok (.aload_n 0, 1) := by decide +kernel
theorem dX5_readToken_5 : decode cX5_readToken 5 = .ok (.getfield 75, 3) := by decide +kernel
theorem dX5_readToken_8 : decode cX5_readToken 8 = .ok (.if_icmp .ge 44, 3) := by decide +kernel
theorem dX5_readToken_11 : decode cX5_readToken 11 = .ok (.aload_n 0, 1) := by decide +kernel
theorem dX5_readToken_12 : decode cX5_readToken 12 = .ok (.getfield 18, 3) := by decide +kernel
theorem dX5_readToken_15 : decode cX5_readToken 15 = .ok (.aload_n 0, 1) := by decide +kernel
theorem dX5_readToken_16 : decode cX5_readToken 16 = .ok (.getfield 78, 3) := by decide +kernel
theorem dX5_readToken_19 : decode cX5_readToken 19 = .ok (.baload, 1) := by decide +kernel
theorem dX5_readToken_20 : decode cX5_readToken 20 = .ok (.bipush 32, 2) := by decide +kernel
theorem dX5_readToken_22 : decode cX5_readToken 22 = .ok (.if_icmp .eq 17, 3) := by decide +kernel
theorem dX5_readToken_25 : decode cX5_readToken 25 = .ok (.aload_n 0, 1) := by decide +kernel
theorem dX5_readToken_26 : decode cX5_readToken 26 = .ok (.getfield 18, 3) := by decide +kernel
theorem dX5_readToken_29 : decode cX5_readToken 29 = .ok (.aload_n 0, 1) := by decide +kernel
theorem dX5_readToken_30 : decode cX5_readToken 30 = .ok (.getfield 78, 3) := by decide +kernel
theorem dX5_readToken_33 : decode cX5_readToken 33 = .ok (.baload, 1) := by decide +kernel
theorem dX5_readToken_34 : decode cX5_readToken 34 = .ok (.bipush 10, 2) := by decide +kernel
theorem dX5_readToken_36 : decode cX5_readToken 36 = .ok (.if_icmp .ne 16, 3) := by decide +kernel
theorem dX5_readToken_39 : decode cX5_readToken 39 = .ok (.aload_n 0, 1) := by decide +kernel
theorem dX5_readToken_40 : decode cX5_readToken 40 = .ok (.dup, 1) := by decide +kernel
theorem dX5_readToken_41 : decode cX5_readToken 41 = .ok (.getfield 78, 3) := by decide +kernel
theorem dX5_readToken_44 : decode cX5_readToken 44 = .ok (.iconst 1, 1) := by decide +kernel
theorem dX5_readToken_45 : decode cX5_readToken 45 = .ok (.iadd, 1) := by decide +kernel
theorem dX5_readToken_46 : decode cX5_readToken 46 = .ok (.putfield 78, 3) := by decide +kernel
theorem dX5_readToken_49 : decode cX5_readToken 49 = .ok (.goto (-49), 3) := by decide +kernel
theorem dX5_readToken_52 : decode cX5_readToken 52 = .ok (.aload_n 0, 1) := by decide +kernel
theorem dX5_readToken_53 : decode cX5_readToken 53 = .ok (.aload_n 0, 1) := by decide +kernel
theorem dX5_readToken_54 : decode cX5_readToken 54 = .ok (.getfield 78, 3) := by decide +kernel
theorem dX5_readToken_57 : decode cX5_readToken 57 = .ok (.putfield 50, 3) := by decide +kernel
theorem dX5_readToken_60 : decode cX5_readToken 60 = .ok (.aload_n 0, 1) := by decide +kernel
theorem dX5_readToken_61 : decode cX5_readToken 61 = .ok (.getfield 78, 3) := by decide +kernel
theorem dX5_readToken_64 : decode cX5_readToken 64 = .ok (.aload_n 0, 1) := by decide +kernel
theorem dX5_readToken_65 : decode cX5_readToken 65 = .ok (.getfield 75, 3) := by decide +kernel
theorem dX5_readToken_68 : decode cX5_readToken 68 = .ok (.if_icmp .lt 11, 3) := by decide +kernel
theorem dX5_readToken_71 : decode cX5_readToken 71 = .ok (.aload_n 0, 1) := by decide +kernel
theorem dX5_readToken_72 : decode cX5_readToken 72 = .ok (.iconst 0, 1) := by decide +kernel
theorem dX5_readToken_73 : decode cX5_readToken 73 = .ok (.putfield 106, 3) := by decide +kernel
theorem dX5_readToken_76 : decode cX5_readToken 76 = .ok (.goto 72, 3) := by decide +kernel
theorem dX5_readToken_79 : decode cX5_readToken 79 = .ok (.aload_n 0, 1) := by decide +kernel
theorem dX5_readToken_80 : decode cX5_readToken 80 = .ok (.aload_n 0, 1) := by decide +kernel
theorem dX5_readToken_81 : decode cX5_readToken 81 = .ok (.getfield 78, 3) := by decide +kernel
theorem dX5_readToken_84 : decode cX5_readToken 84 = .ok (.invokevirtual 116, 3) := by decide +kernel
theorem dX5_readToken_87 : decode cX5_readToken 87 = .ok (.ifCond .eq 10, 3) := by decide +kernel
theorem dX5_readToken_90 : decode cX5_readToken 90 = .ok (.aload_n 0, 1) := by decide +kernel
theorem dX5_readToken_91 : decode cX5_readToken 91 = .ok (.invokevirtual 119, 3) := by decide +kernel
theorem dX5_readToken_94 : decode cX5_readToken 94 = .ok (.goto 54, 3) := by decide +kernel
theorem dX5_readToken_97 : decode cX5_readToken 97 = .ok (.aload_n 0, 1) := by decide +kernel
theorem dX5_readToken_98 : decode cX5_readToken 98 = .ok (.aload_n 0, 1) := by decide +kernel
theorem dX5_readToken_99 : decode cX5_readToken 99 = .ok (.getfield 78, 3) := by decide +kernel
theorem dX5_readToken_102 : decode cX5_readToken 102 = .ok (.invokevirtual 122, 3) := by decide +kernel
theorem dX5_readToken_105 : decode cX5_readToken 105 = .ok (.ifCond .eq 10, 3) := by decide +kernel
theorem dX5_readToken_108 : decode cX5_readToken 108 = .ok (.aload_n 0, 1) := by decide +kernel
theorem dX5_readToken_109 : decode cX5_readToken 109 = .ok (.invokevirtual 125, 3) := by decide +kernel
theorem dX5_readToken_112 : decode cX5_readToken 112 = .ok (.goto 36, 3) := by decide +kernel
theorem dX5_readToken_115 : decode cX5_readToken 115 = .ok (.aload_n 0, 1) := by decide +kernel
theorem dX5_readToken_116 : decode cX5_readToken 116 = .ok (.aload_n 0, 1) := by decide +kernel
theorem dX5_readToken_117 : decode cX5_readToken 117 = .ok (.getfield 18, 3) := by decide +kernel
theorem dX5_readToken_120 : decode cX5_readToken 120 = .ok (.aload_n 0, 1) := by decide +kernel
theorem dX5_readToken_121 : decode cX5_readToken 121 = .ok (.getfield 78, 3) := by decide +kernel
theorem dX5_readToken_124 : decode cX5_readToken 124 = .ok (.baload, 1) := by decide +kernel
theorem dX5_readToken_125 : decode cX5_readToken 125 = .ok (.bipush 59, 2) := by decide +kernel
theorem dX5_readToken_127 : decode cX5_readToken 127 = .ok (.if_icmp .ne 7, 3) := by decide +kernel
theorem dX5_readToken_130 : decode cX5_readToken 130 = .ok (.iconst 3, 1) := by decide +kernel
theorem dX5_readToken_131 : decode cX5_readToken 131 = .ok (.goto 4, 3) := by decide +kernel
theorem dX5_readToken_134 : decode cX5_readToken 134 = .ok (.iconst 4, 1) := by decide +kernel
theorem dX5_readToken_135 : decode cX5_readToken 135 = .ok (.putfield 106, 3) := by decide +kernel
theorem dX5_readToken_138 : decode cX5_readToken 138 = .ok (.aload_n 0, 1) := by decide +kernel
theorem dX5_readToken_139 : decode cX5_readToken 139 = .ok (.dup, 1) := by decide +kernel
theorem dX5_readToken_140 : decode cX5_readToken 140 = .ok (.getfield 78, 3) := by decide +kernel
theorem dX5_readToken_143 : decode cX5_readToken 143 = .ok (.iconst 1, 1) := by decide +kernel
theorem dX5_readToken_144 : decode cX5_readToken 144 = .ok (.iadd, 1) := by decide +kernel
theorem dX5_readToken_145 : decode cX5_readToken 145 = .ok (.putfield 78, 3) := by decide +kernel
theorem dX5_readToken_148 : decode cX5_readToken 148 = .ok (.return_, 1) := by decide +kernel
theorem dX5_readWord_0 : decode cX5_readWord 0 = .ok (.aload_n 0, 1) := by decide +kernel
theorem dX5_readWord_1 : decode cX5_readWord 1 = .ok (.iconst 1, 1) := by decide +kernel
theorem dX5_readWord_2 : decode cX5_readWord 2 = .ok (.putfield 106, 3) := by decide +kernel
theorem dX5_readWord_5 : decode cX5_readWord 5 = .ok (.aload_n 0, 1) := by decide +kernel
theorem dX5_readWord_6 : decode cX5_readWord 6 = .ok (.getfield 78, 3) := by decide +kernel
theorem dX5_readWord_9 : decode cX5_readWord 9 = .ok (.aload_n 0, 1) := by decide +kernel
theorem dX5_readWord_10 : decode cX5_readWord 10 = .ok (.getfield 75, 3) := by decide +kernel
theorem dX5_readWord_13 : decode cX5_readWord 13 = .ok (.if_icmp .ge 27, 3) := by decide +kernel
theorem dX5_readWord_16 : decode cX5_readWord 16 = .ok (.aload_n 0, 1) := by decide +kernel
theorem dX5_readWord_17 : decode cX5_readWord 17 = .ok (.aload_n 0, 1) := by decide +kernel
theorem dX5_readWord_18 : decode cX5_readWord 18 = .ok (.getfield 78, 3) := by decide +kernel
theorem dX5_readWord_21 : decode cX5_readWord 21 = .ok (.invokevirtual 116, 3) := by decide +kernel
theorem dX5_readWord_24 : decode cX5_readWord 24 = .ok (.ifCond .eq 16, 3) := by decide +kernel
theorem dX5_readWord_27 : decode cX5_readWord 27 = .ok (.aload_n 0, 1) := by decide +kernel
theorem dX5_readWord_28 : decode cX5_readWord 28 = .ok (.dup, 1) := by decide +kernel
theorem dX5_readWord_29 : decode cX5_readWord 29 = .ok (.getfield 78, 3) := by decide +kernel
theorem dX5_readWord_32 : decode cX5_readWord 32 = .ok (.iconst 1, 1) := by decide +kernel
theorem dX5_readWord_33 : decode cX5_readWord 33 = .ok (.iadd, 1) := by decide +kernel
theorem dX5_readWord_34 : decode cX5_readWord 34 = .ok (.putfield 78, 3) := by decide +kernel
theorem dX5_readWord_37 : decode cX5_readWord 37 = .ok (.goto (-32), 3) := by decide +kernel
theorem dX5_readWord_40 : decode cX5_readWord 40 = .ok (.return_, 1) := by decide +kernel
theorem dX5_readNumber_0 : decode cX5_readNumber 0 = .ok (.aload_n 0, 1) := by decide +kernel
theorem dX5_readNumber_1 : decode cX5_readNumber 1 = .ok (.iconst 0, 1) := by decide +kernel
theorem dX5_readNumber_2 : decode cX5_readNumber 2 = .ok (.putfield 113, 3) := by decide +kernel
theorem dX5_readNumber_5 : decode cX5_readNumber 5 = .ok (.aload_n 0, 1) := by decide +kernel
theorem dX5_readNumber_6 : decode cX5_readNumber 6 = .ok (.getfield 78, 3) := by decide +kernel
theorem dX5_readNumber_9 : decode cX5_readNumber 9 = .ok (.aload_n 0, 1) := by decide +kernel
theorem dX5_readNumber_10 : decode cX5_readNumber 10 = .ok (.getfield 75, 3) := by decide +kernel
theorem dX5_readNumber_13 : decode cX5_readNumber 13 = .ok (.if_icmp .ge 51, 3) := by decide +kernel
theorem dX5_readNumber_16 : decode cX5_readNumber 16 = .ok (.aload_n 0, 1) := by decide +kernel
theorem dX5_readNumber_17 : decode cX5_readNumber 17 = .ok (.aload_n 0, 1) := by decide +kernel
theorem dX5_readNumber_18 : decode cX5_readNumber 18 = .ok (.getfield 78, 3) := by decide +kernel
theorem dX5_readNumber_21 : decode cX5_readNumber 21 = .ok (.invokevirtual 122, 3) := by decide +kernel
theorem dX5_readNumber_24 : decode cX5_readNumber 24 = .ok (.ifCond .eq 40, 3) := by decide +kernel
theorem dX5_readNumber_27 : decode cX5_readNumber 27 = .ok (.aload_n 0, 1) := by decide +kernel
theorem dX5_readNumber_28 : decode cX5_readNumber 28 = .ok (.aload_n 0, 1) := by decide +kernel
theorem dX5_readNumber_29 : decode cX5_readNumber 29 = .ok (.getfield 113, 3) := by decide +kernel
theorem dX5_readNumber_32 : decode cX5_readNumber 32 = .ok (.bipush 10, 2) := by decide +kernel
theorem dX5_readNumber_34 : decode cX5_readNumber 34 = .ok (.imul, 1) := by decide +kernel
theorem dX5_readNumber_35 : decode cX5_readNumber 35 = .ok (.aload_n 0, 1) := by decide +kernel
theorem dX5_readNumber_36 : decode cX5_readNumber 36 = .ok (.getfield 18, 3) := by decide +kernel
theorem dX5_readNumber_39 : decode cX5_readNumber 39 = .ok (.aload_n 0, 1) := by decide +kernel
theorem dX5_readNumber_40 : decode cX5_readNumber 40 = .ok (.getfield 78, 3) := by decide +kernel
theorem dX5_readNumber_43 : decode cX5_readNumber 43 = .ok (.baload, 1) := by decide +kernel
theorem dX5_readNumber_44 : decode cX5_readNumber 44 = .ok (.iadd, 1) := by decide +kernel
theorem dX5_readNumber_45 : decode cX5_readNumber 45 = .ok (.bipush 48, 2) := by decide +kernel
theorem dX5_readNumber_47 : decode cX5_readNumber 47 = .ok (.isub, 1) := by decide +kernel
theorem dX5_readNumber_48 : decode cX5_readNumber 48 = .ok (.putfield 113, 3) := by decide +kernel
theorem dX5_readNumber_51 : decode cX5_readNumber 51 = .ok (.aload_n 0, 1) := by decide +kernel
theorem dX5_readNumber_52 : decode cX5_readNumber 52 = .ok (.dup, 1) := by decide +kernel
theorem dX5_readNumber_53 : decode cX5_readNumber 53 = .ok (.getfield 78, 3) := by decide +kernel
theorem dX5_readNumber_56 : decode cX5_readNumber 56 = .ok (.iconst 1, 1) := by decide +kernel
theorem dX5_readNumber_57 : decode cX5_readNumber 57 = .ok (.iadd, 1) := by decide +kernel
theorem dX5_readNumber_58 : decode cX5_readNumber 58 = .ok (.putfield 78, 3) := by decide +kernel
theorem dX5_readNumber_61 : decode cX5_readNumber 61 = .ok (.goto (-56), 3) := by decide +kernel
theorem dX5_readNumber_64 : decode cX5_readNumber 64 = .ok (.aload_n 0, 1) := by decide +kernel
theorem dX5_readNumber_65 : decode cX5_readNumber 65 = .ok (.aload_n 0, 1) := by decide +kernel
theorem dX5_readNumber_66 : decode cX5_readNumber 66 = .ok (.getfield 78, 3) := by decide +kernel
theorem dX5_readNumber_69 : decode cX5_readNumber 69 = .ok (.aload_n 0, 1) := by decide +kernel
theorem dX5_readNumber_70 : decode cX5_readNumber 70 = .ok (.getfield 50, 3) := by decide +kernel
theorem dX5_readNumber_73 : decode cX5_readNumber 73 = .ok (.isub, 1) := by decide +kernel
theorem dX5_readNumber_74 : decode cX5_readNumber 74 = .ok (.iconst 2, 1) := by decide +kernel
theorem dX5_readNumber_75 : decode cX5_readNumber 75 = .ok (.if_icmp .gt 7, 3) := by decide +kernel
theorem dX5_readNumber_78 : decode cX5_readNumber 78 = .ok (.iconst 2, 1) := by decide +kernel
theorem dX5_readNumber_79 : decode cX5_readNumber 79 = .ok (.goto 4, 3) := by decide +kernel
theorem dX5_readNumber_82 : decode cX5_readNumber 82 = .ok (.iconst 4, 1) := by decide +kernel
theorem dX5_readNumber_83 : decode cX5_readNumber 83 = .ok (.putfield 106, 3) := by decide +kernel
theorem dX5_readNumber_86 : decode cX5_readNumber 86 = .ok (.return_, 1) := by decide +kernel
theorem dX5_isLetter_0 : decode cX5_isLetter 0 = .ok (.aload_n 0, 1) := by decide +kernel
theorem dX5_isLetter_1 : decode cX5_isLetter 1 = .ok (.getfield 18, 3) := by decide +kernel
theorem dX5_isLetter_4 : decode cX5_isLetter 4 = .ok (.iload_n 1, 1) := by decide +kernel
theorem dX5_isLetter_5 : decode cX5_isLetter 5 = .ok (.baload, 1) := by decide +kernel
theorem dX5_isLetter_6 : decode cX5_isLetter 6 = .ok (.bipush 97, 2) := by decide +kernel
theorem dX5_isLetter_8 : decode cX5_isLetter 8 = .ok (.if_icmp .lt 18, 3) := by decide +kernel
theorem dX5_isLetter_11 : decode cX5_isLetter 11 = .ok (.aload_n 0, 1) := by decide +kernel
theorem dX5_isLetter_12 : decode cX5_isLetter 12 = .ok (.getfield 18, 3) := by decide +kernel
theorem dX5_isLetter_15 : decode cX5_isLetter 15 = .ok (.iload_n 1, 1) := by decide +kernel
theorem dX5_isLetter_16 : decode cX5_isLetter 16 = .ok (.baload, 1) := by decide +kernel
theorem dX5_isLetter_17 : decode cX5_isLetter 17 = .ok (.bipush 122, 2) := by decide +kernel
theorem dX5_isLetter_19 : decode cX5_isLetter 19 = .ok (.if_icmp .gt 7, 3) := by decide +kernel
theorem dX5_isLetter_22 : decode cX5_isLetter 22 = .ok (.iconst 1, 1) := by decide +kernel
theorem dX5_isLetter_23 : decode cX5_isLetter 23 = .ok (.goto 4, 3) := by decide +kernel
theorem dX5_isLetter_26 : decode cX5_isLetter 26 = .ok (.iconst 0, 1) := by decide +kernel
theorem dX5_isLetter_27 : decode cX5_isLetter 27 = .ok (.ireturn, 1) := by decide +kernel
theorem dX5_isDigit_0 : decode cX5_isDigit 0 = .ok (.aload_n 0, 1) := by decide +kernel
theorem dX5_isDigit_1 : decode cX5_isDigit 1 = .ok (.getfield 18, 3) := by decide +kernel
theorem dX5_isDigit_4 : decode cX5_isDigit 4 = .ok (.iload_n 1, 1) := by decide +kernel
theorem dX5_isDigit_5 : decode cX5_isDigit 5 = .ok (.baload, 1) := by decide +kernel
theorem dX5_isDigit_6 : decode cX5_isDigit 6 = .ok (.bipush 48, 2) := by decide +kernel
theorem dX5_isDigit_8 : decode cX5_isDigit 8 = .ok (.if_icmp .lt 18, 3) := by decide +kernel
theorem dX5_isDigit_11 : decode cX5_isDigit 11 = .ok (.aload_n 0, 1) := by decide +kernel
theorem dX5_isDigit_12 : decode cX5_isDigit 12 = .ok (.getfield 18, 3) := by decide +kernel
theorem dX5_isDigit_15 : decode cX5_isDigit 15 = .ok (.iload_n 1, 1) := by decide +kernel
theorem dX5_isDigit_16 : decode cX5_isDigit 16 = .ok (.baload, 1) := by decide +kernel
theorem dX5_isDigit_17 : decode cX5_isDigit 17 = .ok (.bipush 57, 2) := by decide +kernel
theorem dX5_isDigit_19 : decode cX5_isDigit 19 = .ok (.if_icmp .gt 7, 3) := by decide +kernel
theorem dX5_isDigit_22 : decode cX5_isDigit 22 = .ok (.iconst 1, 1) := by decide +kernel
theorem dX5_isDigit_23 : decode cX5_isDigit 23 = .ok (.goto 4, 3) := by decide +kernel
theorem dX5_isDigit_26 : decode cX5_isDigit 26 = .ok (.iconst 0, 1) := by decide +kernel
theorem dX5_isDigit_27 : decode cX5_isDigit 27 = .ok (.ireturn, 1) := by decide +kernel
theorem dX5_wordOfSort_0 : decode cX5_wordOfSort 0 = .ok (.getstatic 128, 3) := by decide +kernel
theorem dX5_wordOfSort_3 : decode cX5_wordOfSort 3 = .ok (.iload_n 1, 1) := by decide +kernel
theorem dX5_wordOfSort_4 : decode cX5_wordOfSort 4 = .ok (.iaload, 1) := by decide +kernel
theorem dX5_wordOfSort_5 : decode cX5_wordOfSort 5 = .ok (.istore_n 2, 1) := by decide +kernel
theorem dX5_wordOfSort_6 : decode cX5_wordOfSort 6 = .ok (.iload_n 2, 1) := by decide +kernel
theorem dX5_wordOfSort_7 : decode cX5_wordOfSort 7 = .ok (.getstatic 128, 3) := by decide +kernel
theorem dX5_wordOfSort_10 : decode cX5_wordOfSort 10 = .ok (.iload_n 1, 1) := by decide +kernel
theorem dX5_wordOfSort_11 : decode cX5_wordOfSort 11 = .ok (.iconst 1, 1) := by decide +kernel
theorem dX5_wordOfSort_12 : decode cX5_wordOfSort 12 = .ok (.iadd, 1) := by decide +kernel
theorem dX5_wordOfSort_13 : decode cX5_wordOfSort 13 = .ok (.iaload, 1) := by decide +kernel
theorem dX5_wordOfSort_14 : decode cX5_wordOfSort 14 = .ok (.if_icmp .ge 22, 3) := by decide +kernel
theorem dX5_wordOfSort_17 : decode cX5_wordOfSort 17 = .ok (.aload_n 0, 1) := by decide +kernel
theorem dX5_wordOfSort_18 : decode cX5_wordOfSort 18 = .ok (.iload_n 2, 1) := by decide +kernel
theorem dX5_wordOfSort_19 : decode cX5_wordOfSort 19 = .ok (.invokestatic 131, 3) := by decide +kernel
theorem dX5_wordOfSort_22 : decode cX5_wordOfSort 22 = .ok (.invokevirtual 135, 3) := by decide +kernel
theorem dX5_wordOfSort_25 : decode cX5_wordOfSort 25 = .ok (.ifCond .eq 5, 3) := by decide +kernel
theorem dX5_wordOfSort_28 : decode cX5_wordOfSort 28 = .ok (.iload_n 2, 1) := by decide +kernel
theorem dX5_wordOfSort_29 : decode cX5_wordOfSort 29 = .ok (.ireturn, 1) := by decide +kernel
theorem dX5_wordOfSort_30 : decode cX5_wordOfSort 30 = .ok (.iinc 2 1, 3) := by decide +kernel
theorem dX5_wordOfSort_33 : decode cX5_wordOfSort 33 = .ok (.goto (-27), 3) := by decide +kernel
theorem dX5_wordOfSort_36 : decode cX5_wordOfSort 36 = .ok (.iconst (-1), 1) := by decide +kernel
theorem dX5_wordOfSort_37 : decode cX5_wordOfSort 37 = .ok (.ireturn, 1) := by decide +kernel
theorem dX5_isSpelled_0 : decode cX5_isSpelled 0 = .ok (.aload_n 0, 1) := by decide +kernel
theorem dX5_isSpelled_1 : decode cX5_isSpelled 1 = .ok (.getfield 78, 3) := by decide +kernel
theorem dX5_isSpelled_4 : decode cX5_isSpelled 4 = .ok (.aload_n 0, 1) := by decide +kernel
theorem dX5_isSpelled_5 : decode cX5_isSpelled 5 = .ok (.getfield 50, 3) := by decide +kernel
theorem dX5_isSpelled_8 : decode cX5_isSpelled 8 = .ok (.isub, 1) := by decide +kernel
theorem dX5_isSpelled_9 : decode cX5_isSpelled 9 = .ok (.aload_n 1, 1) := by decide +kernel
theorem dX5_isSpelled_10 : decode cX5_isSpelled 10 = .ok (.invokevirtual 139, 3) := by decide +kernel
theorem dX5_isSpelled_13 : decode cX5_isSpelled 13 = .ok (.if_icmp .eq 5, 3) := by decide +kernel
theorem dX5_isSpelled_16 : decode cX5_isSpelled 16 = .ok (.iconst 0, 1) := by decide +kernel
theorem dX5_isSpelled_17 : decode cX5_isSpelled 17 = .ok (.ireturn, 1) := by decide +kernel
theorem dX5_isSpelled_18 : decode cX5_isSpelled 18 = .ok (.iconst 0, 1) := by decide +kernel
theorem dX5_isSpelled_19 : decode cX5_isSpelled 19 = .ok (.istore_n 2, 1) := by decide +kernel
theorem dX5_isSpelled_20 : decode cX5_isSpelled 20 = .ok (.iload_n 2, 1) := by decide +kernel
theorem dX5_isSpelled_21 : decode cX5_isSpelled 21 = .ok (.aload_n 1, 1) := by decide +kernel
theorem dX5_isSpelled_22 : decode cX5_isSpelled 22 = .ok (.invokevirtual 139, 3) := by decide +kernel
theorem dX5_isSpelled_25 : decode cX5_isSpelled 25 = .ok (.if_icmp .ge 30, 3) := by decide +kernel
theorem dX5_isSpelled_28 : decode cX5_isSpelled 28 = .ok (.aload_n 0, 1) := by decide +kernel
theorem dX5_isSpelled_29 : decode cX5_isSpelled 29 = .ok (.getfield 18, 3) := by decide +kernel
theorem dX5_isSpelled_32 : decode cX5_isSpelled 32 = .ok (.aload_n 0, 1) := by decide +kernel
theorem dX5_isSpelled_33 : decode cX5_isSpelled 33 = .ok (.getfield 50, 3) := by decide +kernel
theorem dX5_isSpelled_36 : decode cX5_isSpelled 36 = .ok (.iload_n 2, 1) := by decide +kernel
theorem dX5_isSpelled_37 : decode cX5_isSpelled 37 = .ok (.iadd, 1) := by decide +kernel
theorem dX5_isSpelled_38 : decode cX5_isSpelled 38 = .ok (.baload, 1) := by decide +kernel
theorem dX5_isSpelled_39 : decode cX5_isSpelled 39 = .ok (.aload_n 1, 1) := by decide +kernel
theorem dX5_isSpelled_40 : decode cX5_isSpelled 40 = .ok (.iload_n 2, 1) := by decide +kernel
theorem dX5_isSpelled_41 : decode cX5_isSpelled 41 = .ok (.invokevirtual 144, 3) := by decide +kernel
theorem dX5_isSpelled_44 : decode cX5_isSpelled 44 = .ok (.if_icmp .eq 5, 3) := by decide +kernel
theorem dX5_isSpelled_47 : decode cX5_isSpelled 47 = .ok (.iconst 0, 1) := by decide +kernel
theorem dX5_isSpelled_48 : decode cX5_isSpelled 48 = .ok (.ireturn, 1) := by decide +kernel
theorem dX5_isSpelled_49 : decode cX5_isSpelled 49 = .ok (.iinc 2 1, 3) := by decide +kernel
theorem dX5_isSpelled_52 : decode cX5_isSpelled 52 = .ok (.goto (-32), 3) := by decide +kernel
theorem dX5_isSpelled_55 : decode cX5_isSpelled 55 = .ok (.iconst 1, 1) := by decide +kernel
theorem dX5_isSpelled_56 : decode cX5_isSpelled 56 = .ok (.ireturn, 1) := by decide +kernel
theorem dX5_spelling_0 : decode cX5_spelling 0 = .ok (.iload_n 0, 1) := by decide +kernel
theorem dX5_spelling_1 : decode cX5_spelling 1 = .ok (.tableswitch 141 0 17 #[87, 90, 93, 96, 99, 102, 105, 108, 111, 114, 117, 120, 123, 126, 129, 132, 135, 138], 87) := by decide +kernel
theorem dX5_spelling_88 : decode cX5_spelling 88 = .ok (.ldc 148, 2) := by decide +kernel
theorem dX5_spelling_90 : decode cX5_spelling 90 = .ok (.areturn, 1) := by decide +kernel
theorem dX5_spelling_91 : decode cX5_spelling 91 = .ok (.ldc 150, 2) := by decide +kernel
theorem dX5_spelling_93 : decode cX5_spelling 93 = .ok (.areturn, 1) := by decide +kernel
theorem dX5_spelling_94 : decode cX5_spelling 94 = .ok (.ldc 152, 2) := by decide +kernel
theorem dX5_spelling_96 : decode cX5_spelling 96 = .ok (.areturn, 1) := by decide +kernel
theorem dX5_spelling_97 : decode cX5_spelling 97 = .ok (.ldc 154, 2) := by decide +kernel
theorem dX5_spelling_99 : decode cX5_spelling 99 = .ok (.areturn, 1) := by decide +kernel
theorem dX5_spelling_100 : decode cX5_spelling 100 = .ok (.ldc 156, 2) := by decide +kernel
theorem dX5_spelling_102 : decode cX5_spelling 102 = .ok (.areturn, 1) := by decide +kernel
theorem dX5_spelling_103 : decode cX5_spelling 103 = .ok (.ldc 158, 2) := by decide +kernel
theorem dX5_spelling_105 : decode cX5_spelling 105 = .ok (.areturn, 1) := by decide +kernel
theorem dX5_spelling_106 : decode cX5_spelling 106 = .ok (.ldc 160, 2) := by decide +kernel
theorem dX5_spelling_108 : decode cX5_spelling 108 = .ok (.areturn, 1) := by decide +kernel
theorem dX5_spelling_109 : decode cX5_spelling 109 = .ok (.ldc 162, 2) := by decide +kernel
theorem dX5_spelling_111 : decode cX5_spelling 111 = .ok (.areturn, 1) := by decide +kernel
theorem dX5_spelling_112 : decode cX5_spelling 112 = .ok (.ldc 164, 2) := by decide +kernel
theorem dX5_spelling_114 : decode cX5_spelling 114 = .ok (.areturn, 1) := by decide +kernel
theorem dX5_spelling_115 : decode cX5_spelling 115 = .ok (.ldc 166, 2) := by decide +kernel
theorem dX5_spelling_117 : decode cX5_spelling 117 = .ok (.areturn, 1) := by decide +kernel
theorem dX5_spelling_118 : decode cX5_spelling 118 = .ok (.ldc 168, 2) := by decide +kernel
theorem dX5_spelling_120 : decode cX5_spelling 120 = .ok (.areturn, 1) := by decide +kernel
theorem dX5_spelling_121 : decode cX5_spelling 121 = .ok (.ldc 170, 2) := by decide +kernel
theorem dX5_spelling_123 : decode cX5_spelling 123 = .ok (.areturn, 1) := by decide +kernel
theorem dX5_spelling_124 : decode cX5_spelling 124 = .ok (.ldc 172, 2) := by decide +kernel
theorem dX5_spelling_126 : decode cX5_spelling 126 = .ok (.areturn, 1) := by decide +kernel
theorem dX5_spelling_127 : decode cX5_spelling 127 = .ok (.ldc 174, 2) := by decide +kernel
theorem dX5_spelling_129 : decode cX5_spelling 129 = .ok (.areturn, 1) := by decide +kernel
theorem dX5_spelling_130 : decode cX5_spelling 130 = .ok (.ldc 176, 2) := by decide +kernel
theorem dX5_spelling_132 : decode cX5_spelling 132 = .ok (.areturn, 1) := by decide +kernel
theorem dX5_spelling_133 : decode cX5_spelling 133 = .ok (.ldc 178, 2) := by decide +kernel
theorem dX5_spelling_135 : decode cX5_spelling 135 = .ok (.areturn, 1) := by decide +kernel
theorem dX5_spelling_136 : decode cX5_spelling 136 = .ok (.ldc 180, 2) := by decide +kernel
theorem dX5_spelling_138 : decode cX5_spelling 138 = .ok (.areturn, 1) := by decide +kernel
theorem dX5_spelling_139 : decode cX5_spelling 139 = .ok (.ldc 182, 2) := by decide +kernel
theorem dX5_spelling_141 : decode cX5_spelling 141 = .ok (.areturn, 1) := by decide +kernel
theorem dX5_spelling_142 : decode cX5_spelling 142 = .ok (.ldc 184, 2) := by decide +kernel
theorem dX5_spelling_144 : decode cX5_spelling 144 = .ok (.areturn, 1) := by decide +kernel
