/-! decode rows -/
theorem dX11_init_0 : decode cX11_init 0 = .ok (.aload_n 0, 1) := by decide +kernel
theorem dX11_init_1 : decode cX11_init 1 = .ok (.invokespecial 1, 3) := by decide +kernel
theorem dX11_init_4 : decode cX11_init 4 = .ok (.aload_n 0, 1) := by decide +kernel
theorem dX11_init_5 : decode cX11_init 5 = .ok (.new 7, 3) := by decide +kernel
theorem dX11_init_8 : decode cX11_init 8 = .ok (.dup, 1) := by decide +kernel
theorem dX11_init_9 : decode cX11_init 9 = .ok (.invokespecial 9, 3) := by decide +kernel
theorem dX11_init_12 : decode cX11_init 12 = .ok (.putfield 10, 3) := by decide +kernel
theorem dX11_init_15 : decode cX11_init 15 = .ok (.aload_n 0, 1) := by decide +kernel
theorem dX11_init_16 : decode cX11_init 16 = .ok (.iconst 3, 1) := by decide +kernel
theorem dX11_init_17 : decode cX11_init 17 = .ok (.anewarray 7, 3) := by decide +kernel
theorem dX11_init_20 : decode cX11_init 20 = .ok (.putfield 16, 3) := by decide +kernel
theorem dX11_init_23 : decode cX11_init 23 = .ok (.iconst 0, 1) := by decide +kernel
theorem dX11_init_24 : decode cX11_init 24 = .ok (.istore_n 1, 1) := by decide +kernel
theorem dX11_init_25 : decode cX11_init 25 = .ok (.iload_n 1, 1) := by decide +kernel
theorem dX11_init_26 : decode cX11_init 26 = .ok (.iconst 3, 1) := by decide +kernel
theorem dX11_init_27 : decode cX11_init 27 = .ok (.if_icmp .ge 22, 3) := by decide +kernel
theorem dX11_init_30 : decode cX11_init 30 = .ok (.aload_n 0, 1) := by decide +kernel
theorem dX11_init_31 : decode cX11_init 31 = .ok (.getfield 16, 3) := by decide +kernel
theorem dX11_init_34 : decode cX11_init 34 = .ok (.iload_n 1, 1) := by decide +kernel
theorem dX11_init_35 : decode cX11_init 35 = .ok (.new 7, 3) := by decide +kernel
theorem dX11_init_38 : decode cX11_init 38 = .ok (.dup, 1) := by decide +kernel
theorem dX11_init_39 : decode cX11_init 39 = .ok (.invokespecial 9, 3) := by decide +kernel
theorem dX11_init_42 : decode cX11_init 42 = .ok (.aastore, 1) := by decide +kernel
theorem dX11_init_43 : decode cX11_init 43 = .ok (.iinc 1 1, 3) := by decide +kernel
theorem dX11_init_46 : decode cX11_init 46 = .ok (.goto (-21), 3) := by decide +kernel
theorem dX11_init_49 : decode cX11_init 49 = .ok (.aload_n 0, 1) := by decide +kernel
theorem dX11_init_50 : decode cX11_init 50 = .ok (.iconst 3, 1) := by decide +kernel
theorem dX11_init_51 : decode cX11_init 51 = .ok (.newarray .boolean, 2) := by decide +kernel
theorem dX11_init_53 : decode cX11_init 53 = .ok (.putfield 20, 3) := by decide +kernel
theorem dX11_init_56 : decode cX11_init 56 = .ok (.aload_n 0, 1) := by decide +kernel
theorem dX11_init_57 : decode cX11_init 57 = .ok (.new 24, 3) := by decide +kernel
theorem dX11_init_60 : decode cX11_init 60 = .ok (.dup, 1) := by decide +kernel
theorem dX11_init_61 : decode cX11_init 61 = .ok (.aload_n 0, 1) := by decide +kernel
theorem dX11_init_62 : decode cX11_init 62 = .ok (.getfield 10, 3) := by decide +kernel
theorem dX11_init_65 : decode cX11_init 65 = .ok (.getfield 26, 3) := by decide +kernel
theorem dX11_init_68 : decode cX11_init 68 = .ok (.invokespecial 30, 3) := by decide +kernel
theorem dX11_init_71 : decode cX11_init 71 = .ok (.putfield 33, 3) := by decide +kernel
theorem dX11_init_74 : decode cX11_init 74 = .ok (.aload_n 0, 1) := by decide +kernel
theorem dX11_init_75 : decode cX11_init 75 = .ok (.new 37, 3) := by decide +kernel
theorem dX11_init_78 : decode cX11_init 78 = .ok (.dup, 1) := by decide +kernel
theorem dX11_init_79 : decode cX11_init 79 = .ok (.aload_n 0, 1) := by decide +kernel
theorem dX11_init_80 : decode cX11_init 80 = .ok (.getfield 10, 3) := by decide +kernel
theorem dX11_init_83 : decode cX11_init 83 = .ok (.getfield 39, 3) := by decide +kernel
theorem dX11_init_86 : decode cX11_init 86 = .ok (.iconst 0, 1) := by decide +kernel
theorem dX11_init_87 : decode cX11_init 87 = .ok (.aaload, 1) := by decide +kernel
theorem dX11_init_88 : decode cX11_init 88 = .ok (.aload_n 0, 1) := by decide +kernel
theorem dX11_init_89 : decode cX11_init 89 = .ok (.getfield 10, 3) := by decide +kernel
theorem dX11_init_92 : decode cX11_init 92 = .ok (.getfield 43, 3) := by decide +kernel
theorem dX11_init_95 : decode cX11_init 95 = .ok (.iconst 0, 1) := by decide +kernel
theorem dX11_init_96 : decode cX11_init 96 = .ok (.aaload, 1) := by decide +kernel
theorem dX11_init_97 : decode cX11_init 97 = .ok (.invokespecial 47, 3) := by decide +kernel
theorem dX11_init_100 : decode cX11_init 100 = .ok (.putfield 50, 3) := by decide +kernel
theorem dX11_init_103 : decode cX11_init 103 = .ok (.aload_n 0, 1) := by decide +kernel
theorem dX11_init_104 : decode cX11_init 104 = .ok (.new 54, 3) := by decide +kernel
theorem dX11_init_107 : decode cX11_init 107 = .ok (.dup, 1) := by decide +kernel
theorem dX11_init_108 : decode cX11_init 108 = .ok (.invokespecial 56, 3) := by decide +kernel
theorem dX11_init_111 : decode cX11_init 111 = .ok (.putfield 57, 3) := by decide +kernel
theorem dX11_init_114 : decode cX11_init 114 = .ok (.aload_n 0, 1) := by decide +kernel
theorem dX11_init_115 : decode cX11_init 115 = .ok (.new 61, 3) := by decide +kernel
theorem dX11_init_118 : decode cX11_init 118 = .ok (.dup, 1) := by decide +kernel
theorem dX11_init_119 : decode cX11_init 119 = .ok (.invokespecial 63, 3) := by decide +kernel
theorem dX11_init_122 : decode cX11_init 122 = .ok (.putfield 64, 3) := by decide +kernel
theorem dX11_init_125 : decode cX11_init 125 = .ok (.aload_n 0, 1) := by decide +kernel
theorem dX11_init_126 : decode cX11_init 126 = .ok (.iconst 5, 1) := by decide +kernel
theorem dX11_init_127 : decode cX11_init 127 = .ok (.newarray .int, 2) := by decide +kernel
theorem dX11_init_129 : decode cX11_init 129 = .ok (.putfield 68, 3) := by decide +kernel
theorem dX11_init_132 : decode cX11_init 132 = .ok (.aload_n 0, 1) := by decide +kernel
theorem dX11_init_133 : decode cX11_init 133 = .ok (.bipush 10, 2) := by decide +kernel
theorem dX11_init_135 : decode cX11_init 135 = .ok (.newarray .int, 2) := by decide +kernel
theorem dX11_init_137 : decode cX11_init 137 = .ok (.putfield 72, 3) := by decide +kernel
theorem dX11_init_140 : decode cX11_init 140 = .ok (.aload_n 0, 1) := by decide +kernel
theorem dX11_init_141 : decode cX11_init 141 = .ok (.bipush 10, 2) := by decide +kernel
theorem dX11_init_143 : decode cX11_init 143 = .ok (.newarray .int, 2) := by decide +kernel
theorem dX11_init_145 : decode cX11_init 145 = .ok (.putfield 75, 3) := by decide +kernel
theorem dX11_init_148 : decode cX11_init 148 = .ok (.return_, 1) := by decide +kernel
theorem dX11_feed_0 : decode cX11_feed 0 = .ok (.aload_n 0, 1) := by decide +kernel
theorem dX11_feed_1 : decode cX11_feed 1 = .ok (.getfield 10, 3) := by decide +kernel
theorem dX11_feed_4 : decode cX11_feed 4 = .ok (.getfield 78, 3) := by decide +kernel
theorem dX11_feed_7 : decode cX11_feed 7 = .ok (.bipush 20, 2) := by decide +kernel
theorem dX11_feed_9 : decode cX11_feed 9 = .ok (.iadd, 1) := by decide +kernel
theorem dX11_feed_10 : decode cX11_feed 10 = .ok (.sipush 600, 3) := by decide +kernel
theorem dX11_feed_13 : decode cX11_feed 13 = .ok (.if_icmp .le 5, 3) := by decide +kernel
theorem dX11_feed_16 : decode cX11_feed 16 = .ok (.iconst (-1), 1) := by decide +kernel
theorem dX11_feed_17 : decode cX11_feed 17 = .ok (.ireturn, 1) := by decide +kernel
theorem dX11_feed_18 : decode cX11_feed 18 = .ok (.aload_n 0, 1) := by decide +kernel
theorem dX11_feed_19 : decode cX11_feed 19 = .ok (.getfield 10, 3) := by decide +kernel
theorem dX11_feed_22 : decode cX11_feed 22 = .ok (.iload_n 1, 1) := by decide +kernel
theorem dX11_feed_23 : decode cX11_feed 23 = .ok (.invokevirtual 82, 3) := by decide +kernel
theorem dX11_feed_26 : decode cX11_feed 26 = .ok (.aload_n 0, 1) := by decide +kernel
theorem dX11_feed_27 : decode cX11_feed 27 = .ok (.getfield 10, 3) := by decide +kernel
theorem dX11_feed_30 : decode cX11_feed 30 = .ok (.iload_n 2, 1) := by decide +kernel
theorem dX11_feed_31 : decode cX11_feed 31 = .ok (.invokevirtual 82, 3) := by decide +kernel
theorem dX11_feed_34 : decode cX11_feed 34 = .ok (.aload_n 0, 1) := by decide +kernel
theorem dX11_feed_35 : decode cX11_feed 35 = .ok (.getfield 10, 3) := by decide +kernel
theorem dX11_feed_38 : decode cX11_feed 38 = .ok (.iload_n 3, 1) := by decide +kernel
theorem dX11_feed_39 : decode cX11_feed 39 = .ok (.invokevirtual 82, 3) := by decide +kernel
theorem dX11_feed_42 : decode cX11_feed 42 = .ok (.aload_n 0, 1) := by decide +kernel
theorem dX11_feed_43 : decode cX11_feed 43 = .ok (.getfield 10, 3) := by decide +kernel
theorem dX11_feed_46 : decode cX11_feed 46 = .ok (.iload 4, 2) := by decide +kernel
theorem dX11_feed_48 : decode cX11_feed 48 = .ok (.invokevirtual 82, 3) := by decide +kernel
theorem dX11_feed_51 : decode cX11_feed 51 = .ok (.aload_n 0, 1) := by decide +kernel
theorem dX11_feed_52 : decode cX11_feed 52 = .ok (.getfield 10, 3) := by decide +kernel
theorem dX11_feed_55 : decode cX11_feed 55 = .ok (.iload 5, 2) := by decide +kernel
theorem dX11_feed_57 : decode cX11_feed 57 = .ok (.invokevirtual 82, 3) := by decide +kernel
theorem dX11_feed_60 : decode cX11_feed 60 = .ok (.aload_n 0, 1) := by decide +kernel
theorem dX11_feed_61 : decode cX11_feed 61 = .ok (.getfield 10, 3) := by decide +kernel
theorem dX11_feed_64 : decode cX11_feed 64 = .ok (.getfield 78, 3) := by decide +kernel
theorem dX11_feed_67 : decode cX11_feed 67 = .ok (.ireturn, 1) := by decide +kernel
theorem dX11_end_0 : decode cX11_end 0 = .ok (.iload_n 1, 1) := by decide +kernel
theorem dX11_end_1 : decode cX11_end 1 = .ok (.ifCond .lt 14, 3) := by decide +kernel
theorem dX11_end_4 : decode cX11_end 4 = .ok (.iload_n 1, 1) := by decide +kernel
theorem dX11_end_5 : decode cX11_end 5 = .ok (.aload_n 0, 1) := by decide +kernel
theorem dX11_end_6 : decode cX11_end 6 = .ok (.getfield 10, 3) := by decide +kernel
theorem dX11_end_9 : decode cX11_end 9 = .ok (.getfield 78, 3) := by decide +kernel
theorem dX11_end_12 : decode cX11_end 12 = .ok (.if_icmp .le 5, 3) := by decide +kernel
theorem dX11_end_15 : decode cX11_end 15 = .ok (.iconst (-1), 1) := by decide +kernel
theorem dX11_end_16 : decode cX11_end 16 = .ok (.ireturn, 1) := by decide +kernel
theorem dX11_end_17 : decode cX11_end 17 = .ok (.aload_n 0, 1) := by decide +kernel
theorem dX11_end_18 : decode cX11_end 18 = .ok (.getfield 10, 3) := by decide +kernel
theorem dX11_end_21 : decode cX11_end 21 = .ok (.iload_n 1, 1) := by decide +kernel
theorem dX11_end_22 : decode cX11_end 22 = .ok (.putfield 78, 3) := by decide +kernel
theorem dX11_end_25 : decode cX11_end 25 = .ok (.iload_n 1, 1) := by decide +kernel
theorem dX11_end_26 : decode cX11_end 26 = .ok (.ireturn, 1) := by decide +kernel
theorem dX11_text_0 : decode cX11_text 0 = .ok (.aload_n 0, 1) := by decide +kernel
theorem dX11_text_1 : decode cX11_text 1 = .ok (.getfield 10, 3) := by decide +kernel
theorem dX11_text_4 : decode cX11_text 4 = .ok (.iconst 0, 1) := by decide +kernel
theorem dX11_text_5 : decode cX11_text 5 = .ok (.putfield 86, 3) := by decide +kernel
theorem dX11_text_8 : decode cX11_text 8 = .ok (.aload_n 0, 1) := by decide +kernel
theorem dX11_text_9 : decode cX11_text 9 = .ok (.getfield 10, 3) := by decide +kernel
theorem dX11_text_12 : decode cX11_text 12 = .ok (.iconst (-1), 1) := by decide +kernel
theorem dX11_text_13 : decode cX11_text 13 = .ok (.putfield 89, 3) := by decide +kernel
theorem dX11_text_16 : decode cX11_text 16 = .ok (.aload_n 0, 1) := by decide +kernel
theorem dX11_text_17 : decode cX11_text 17 = .ok (.getfield 10, 3) := by decide +kernel
theorem dX11_text_20 : decode cX11_text 20 = .ok (.getfield 78, 3) := by decide +kernel
theorem dX11_text_23 : decode cX11_text 23 = .ok (.istore_n 3, 1) := by decide +kernel
theorem dX11_text_24 : decode cX11_text 24 = .ok (.aload_n 0, 1) := by decide +kernel
theorem dX11_text_25 : decode cX11_text 25 = .ok (.getfield 10, 3) := by decide +kernel
theorem dX11_text_28 : decode cX11_text 28 = .ok (.iconst 0, 1) := by decide +kernel
theorem dX11_text_29 : decode cX11_text 29 = .ok (.putfield 78, 3) := by decide +kernel
theorem dX11_text_32 : decode cX11_text 32 = .ok (.aload_n 0, 1) := by decide +kernel
theorem dX11_text_33 : decode cX11_text 33 = .ok (.getfield 10, 3) := by decide +kernel
theorem dX11_text_36 : decode cX11_text 36 = .ok (.iload_n 1, 1) := by decide +kernel
theorem dX11_text_37 : decode cX11_text 37 = .ok (.iload_n 2, 1) := by decide +kernel
theorem dX11_text_38 : decode cX11_text 38 = .ok (.invokevirtual 92, 3) := by decide +kernel
theorem dX11_text_41 : decode cX11_text 41 = .ok (.istore 4, 2) := by decide +kernel
theorem dX11_text_43 : decode cX11_text 43 = .ok (.iload 4, 2) := by decide +kernel
theorem dX11_text_45 : decode cX11_text 45 = .ok (.ifCond .ge 6, 3) := by decide +kernel
theorem dX11_text_48 : decode cX11_text 48 = .ok (.bipush (-2), 2) := by decide +kernel
theorem dX11_text_50 : decode cX11_text 50 = .ok (.ireturn, 1) := by decide +kernel
theorem dX11_text_51 : decode cX11_text 51 = .ok (.aload_n 0, 1) := by decide +kernel
theorem dX11_text_52 : decode cX11_text 52 = .ok (.getfield 33, 3) := by decide +kernel
theorem dX11_text_55 : decode cX11_text 55 = .ok (.iload_n 1, 1) := by decide +kernel
theorem dX11_text_56 : decode cX11_text 56 = .ok (.iload_n 3, 1) := by decide +kernel
theorem dX11_text_57 : decode cX11_text 57 = .ok (.invokevirtual 96, 3) := by decide +kernel
theorem dX11_text_60 : decode cX11_text 60 = .ok (.aload_n 0, 1) := by decide +kernel
theorem dX11_text_61 : decode cX11_text 61 = .ok (.getfield 33, 3) := by decide +kernel
theorem dX11_text_64 : decode cX11_text 64 = .ok (.getfield 100, 3) := by decide +kernel
theorem dX11_text_67 : decode cX11_text 67 = .ok (.ifCond .eq 33, 3) := by decide +kernel
theorem dX11_text_70 : decode cX11_text 70 = .ok (.aload_n 0, 1) := by decide +kernel
theorem dX11_text_71 : decode cX11_text 71 = .ok (.getfield 10, 3) := by decide +kernel
theorem dX11_text_74 : decode cX11_text 74 = .ok (.aload_n 0, 1) := by decide +kernel
theorem dX11_text_75 : decode cX11_text 75 = .ok (.getfield 33, 3) := by decide +kernel
theorem dX11_text_78 : decode cX11_text 78 = .ok (.getfield 100, 3) := by decide +kernel
theorem dX11_text_81 : decode cX11_text 81 = .ok (.putfield 86, 3) := by decide +kernel
theorem dX11_text_84 : decode cX11_text 84 = .ok (.aload_n 0, 1) := by decide +kernel
theorem dX11_text_85 : decode cX11_text 85 = .ok (.getfield 10, 3) := by decide +kernel
theorem dX11_text_88 : decode cX11_text 88 = .ok (.aload_n 0, 1) := by decide +kernel
theorem dX11_text_89 : decode cX11_text 89 = .ok (.getfield 33, 3) := by decide +kernel
theorem dX11_text_92 : decode cX11_text 92 = .ok (.getfield 101, 3) := by decide +kernel
theorem dX11_text_95 : decode cX11_text 95 = .ok (.putfield 89, 3) := by decide +kernel
theorem dX11_text_98 : decode cX11_text 98 = .ok (.iconst (-1), 1) := by decide +kernel
theorem dX11_text_99 : decode cX11_text 99 = .ok (.ireturn, 1) := by decide +kernel
theorem dX11_text_100 : decode cX11_text 100 = .ok (.aload_n 0, 1) := by decide +kernel
theorem dX11_text_101 : decode cX11_text 101 = .ok (.getfield 33, 3) := by decide +kernel
theorem dX11_text_104 : decode cX11_text 104 = .ok (.iload_n 1, 1) := by decide +kernel
theorem dX11_text_105 : decode cX11_text 105 = .ok (.iload_n 3, 1) := by decide +kernel
theorem dX11_text_106 : decode cX11_text 106 = .ok (.aload_n 0, 1) := by decide +kernel
theorem dX11_text_107 : decode cX11_text 107 = .ok (.getfield 10, 3) := by decide +kernel
theorem dX11_text_110 : decode cX11_text 110 = .ok (.iload 4, 2) := by decide +kernel
theorem dX11_text_112 : decode cX11_text 112 = .ok (.invokevirtual 102, 3) := by decide +kernel
theorem dX11_text_115 : decode cX11_text 115 = .ok (.iload_n 2, 1) := by decide +kernel
theorem dX11_text_116 : decode cX11_text 116 = .ok (.iconst (-1), 1) := by decide +kernel
theorem dX11_text_117 : decode cX11_text 117 = .ok (.if_icmp .ne 16, 3) := by decide +kernel
theorem dX11_text_120 : decode cX11_text 120 = .ok (.aload_n 0, 1) := by decide +kernel
theorem dX11_text_121 : decode cX11_text 121 = .ok (.getfield 10, 3) := by decide +kernel
theorem dX11_text_124 : decode cX11_text 124 = .ok (.getfield 106, 3) := by decide +kernel
theorem dX11_text_127 : decode cX11_text 127 = .ok (.iload_n 1, 1) := by decide +kernel
theorem dX11_text_128 : decode cX11_text 128 = .ok (.dup2, 1) := by decide +kernel
theorem dX11_text_129 : decode cX11_text 129 = .ok (.iaload, 1) := by decide +kernel
theorem dX11_text_130 : decode cX11_text 130 = .ok (.iconst 1, 1) := by decide +kernel
theorem dX11_text_131 : decode cX11_text 131 = .ok (.iadd, 1) := by decide +kernel
theorem dX11_text_132 : decode cX11_text 132 = .ok (.iastore, 1) := by decide +kernel
theorem dX11_text_133 : decode cX11_text 133 = .ok (.iload 4, 2) := by decide +kernel
theorem dX11_text_135 : decode cX11_text 135 = .ok (.ireturn, 1) := by decide +kernel
theorem dX11_fault_0 : decode cX11_fault 0 = .ok (.iload_n 1, 1) := by decide +kernel
theorem dX11_fault_1 : decode cX11_fault 1 = .ok (.ifCond .ne 11, 3) := by decide +kernel
theorem dX11_fault_4 : decode cX11_fault 4 = .ok (.aload_n 0, 1) := by decide +kernel
theorem dX11_fault_5 : decode cX11_fault 5 = .ok (.getfield 10, 3) := by decide +kernel
theorem dX11_fault_8 : decode cX11_fault 8 = .ok (.getfield 86, 3) := by decide +kernel
theorem dX11_fault_11 : decode cX11_fault 11 = .ok (.ireturn, 1) := by decide +kernel
theorem dX11_fault_12 : decode cX11_fault 12 = .ok (.iload_n 1, 1) := by decide +kernel
theorem dX11_fault_13 : decode cX11_fault 13 = .ok (.iconst 1, 1) := by decide +kernel
theorem dX11_fault_14 : decode cX11_fault 14 = .ok (.if_icmp .ne 13, 3) := by decide +kernel
theorem dX11_fault_17 : decode cX11_fault 17 = .ok (.aload_n 0, 1) := by decide +kernel
theorem dX11_fault_18 : decode cX11_fault 18 = .ok (.getfield 10, 3) := by decide +kernel
theorem dX11_fault_21 : decode cX11_fault 21 = .ok (.getfield 89, 3) := by decide +kernel
theorem dX11_fault_24 : decode cX11_fault 24 = .ok (.goto 4, 3) := by decide +kernel
theorem dX11_fault_27 : decode cX11_fault 27 = .ok (.iconst (-1), 1) := by decide +kernel
theorem dX11_fault_28 : decode cX11_fault 28 = .ok (.ireturn, 1) := by decide +kernel
theorem dX11_store_0 : decode cX11_store 0 = .ok (.aload_n 0, 1) := by decide +kernel
theorem dX11_store_1 : decode cX11_store 1 = .ok (.getfield 10, 3) := by decide +kernel
theorem dX11_store_4 : decode cX11_store 4 = .ok (.iconst 0, 1) := by decide +kernel
theorem dX11_store_5 : decode cX11_store 5 = .ok (.iload_n 1, 1) := by decide +kernel
theorem dX11_store_6 : decode cX11_store 6 = .ok (.invokevirtual 109, 3) := by decide +kernel
theorem dX11_store_9 : decode cX11_store 9 = .ok (.ifCond .ne 6, 3) := by decide +kernel
theorem dX11_store_12 : decode cX11_store 12 = .ok (.bipush (-2), 2) := by decide +kernel
theorem dX11_store_14 : decode cX11_store 14 = .ok (.ireturn, 1) := by decide +kernel
theorem dX11_store_15 : decode cX11_store 15 = .ok (.aload_n 0, 1) := by decide +kernel
theorem dX11_store_16 : decode cX11_store 16 = .ok (.getfield 10, 3) := by decide +kernel
theorem dX11_store_19 : decode cX11_store 19 = .ok (.getfield 39, 3) := by decide +kernel
theorem dX11_store_22 : decode cX11_store 22 = .ok (.iload_n 1, 1) := by decide +kernel
theorem dX11_store_23 : decode cX11_store 23 = .ok (.aaload, 1) := by decide +kernel
theorem dX11_store_24 : decode cX11_store 24 = .ok (.astore_n 3, 1) := by decide +kernel
theorem dX11_store_25 : decode cX11_store 25 = .ok (.iload_n 2, 1) := by decide +kernel
theorem dX11_store_26 : decode cX11_store 26 = .ok (.ifCond .ne 8, 3) := by decide +kernel
theorem dX11_store_29 : decode cX11_store 29 = .ok (.aload_n 3, 1) := by decide +kernel
theorem dX11_store_30 : decode cX11_store 30 = .ok (.getfield 113, 3) := by decide +kernel
theorem dX11_store_33 : decode cX11_store 33 = .ok (.ireturn, 1) := by decide +kernel
theorem dX11_store_34 : decode cX11_store 34 = .ok (.iload_n 2, 1) := by decide +kernel
theorem dX11_store_35 : decode cX11_store 35 = .ok (.iconst 1, 1) := by decide +kernel
theorem dX11_store_36 : decode cX11_store 36 = .ok (.if_icmp .ne 8, 3) := by decide +kernel
theorem dX11_store_39 : decode cX11_store 39 = .ok (.aload_n 3, 1) := by decide +kernel
theorem dX11_store_40 : decode cX11_store 40 = .ok (.getfield 118, 3) := by decide +kernel
theorem dX11_store_43 : decode cX11_store 43 = .ok (.ireturn, 1) := by decide +kernel
theorem dX11_store_44 : decode cX11_store 44 = .ok (.iload_n 2, 1) := by decide +kernel
theorem dX11_store_45 : decode cX11_store 45 = .ok (.iconst 2, 1) := by decide +kernel
theorem dX11_store_46 : decode cX11_store 46 = .ok (.if_icmp .ne 11, 3) := by decide +kernel
theorem dX11_store_49 : decode cX11_store 49 = .ok (.aload_n 3, 1) := by decide +kernel
theorem dX11_store_50 : decode cX11_store 50 = .ok (.getfield 121, 3) := by decide +kernel
theorem dX11_store_53 : decode cX11_store 53 = .ok (.invokestatic 124, 3) := by decide +kernel
theorem dX11_store_56 : decode cX11_store 56 = .ok (.ireturn, 1) := by decide +kernel
theorem dX11_store_57 : decode cX11_store 57 = .ok (.iload_n 2, 1) := by decide +kernel
theorem dX11_store_58 : decode cX11_store 58 = .ok (.bipush 10, 2) := by decide +kernel
theorem dX11_store_60 : decode cX11_store 60 = .ok (.invokestatic 128, 3) := by decide +kernel
theorem dX11_store_63 : decode cX11_store 63 = .ok (.ifCond .eq 15, 3) := by decide +kernel
theorem dX11_store_66 : decode cX11_store 66 = .ok (.aload_n 3, 1) := by decide +kernel
theorem dX11_store_67 : decode cX11_store 67 = .ok (.getfield 121, 3) := by decide +kernel
theorem dX11_store_70 : decode cX11_store 70 = .ok (.iload_n 2, 1) := by decide +kernel
theorem dX11_store_71 : decode cX11_store 71 = .ok (.bipush 10, 2) := by decide +kernel
theorem dX11_store_73 : decode cX11_store 73 = .ok (.isub, 1) := by decide +kernel
theorem dX11_store_74 : decode cX11_store 74 = .ok (.iaload, 1) := by decide +kernel
theorem dX11_store_75 : decode cX11_store 75 = .ok (.goto 5, 3) := by decide +kernel
theorem dX11_store_78 : decode cX11_store 78 = .ok (.bipush (-2), 2) := by decide +kernel
theorem dX11_store_80 : decode cX11_store 80 = .ok (.ireturn, 1) := by decide +kernel
theorem dX11_task_0 : decode cX11_task 0 = .ok (.aload_n 0, 1) := by decide +kernel
theorem dX11_task_1 : decode cX11_task 1 = .ok (.getfield 10, 3) := by decide +kernel
theorem dX11_task_4 : decode cX11_task 4 = .ok (.iconst 1, 1) := by decide +kernel
theorem dX11_task_5 : decode cX11_task 5 = .ok (.iload_n 1, 1) := by decide +kernel
theorem dX11_task_6 : decode cX11_task 6 = .ok (.invokevirtual 109, 3) := by decide +kernel
theorem dX11_task_9 : decode cX11_task 9 = .ok (.ifCond .ne 6, 3) := by decide +kernel
theorem dX11_task_12 : decode cX11_task 12 = .ok (.bipush (-2), 2) := by decide +kernel
theorem dX11_task_14 : decode cX11_task 14 = .ok (.ireturn, 1) := by decide +kernel
theorem dX11_task_15 : decode cX11_task 15 = .ok (.aload_n 0, 1) := by decide +kernel
theorem dX11_task_16 : decode cX11_task 16 = .ok (.getfield 10, 3) := by decide +kernel
theorem dX11_task_19 : decode cX11_task 19 = .ok (.getfield 43, 3) := by decide +kernel
theorem dX11_task_22 : decode cX11_task 22 = .ok (.iload_n 1, 1) := by decide +kernel
theorem dX11_task_23 : decode cX11_task 23 = .ok (.aaload, 1) := by decide +kernel
theorem dX11_task_24 : decode cX11_task 24 = .ok (.astore 4, 2) := by decide +kernel
theorem dX11_task_26 : decode cX11_task 26 = .ok (.iload_n 2, 1) := by decide +kernel
theorem dX11_task_27 : decode cX11_task 27 = .ok (.iconst (-1), 1) := by decide +kernel
theorem dX11_task_28 : decode cX11_task 28 = .ok (.if_icmp .ne 18, 3) := by decide +kernel
theorem dX11_task_31 : decode cX11_task 31 = .ok (.iload_n 3, 1) := by decide +kernel
theorem dX11_task_32 : decode cX11_task 32 = .ok (.ifCond .ne 11, 3) := by decide +kernel
theorem dX11_task_35 : decode cX11_task 35 = .ok (.aload 4, 2) := by decide +kernel
theorem dX11_task_37 : decode cX11_task 37 = .ok (.getfield 131, 3) := by decide +kernel
theorem dX11_task_40 : decode cX11_task 40 = .ok (.goto 5, 3) := by decide +kernel
theorem dX11_task_43 : decode cX11_task 43 = .ok (.bipush (-2), 2) := by decide +kernel
theorem dX11_task_45 : decode cX11_task 45 = .ok (.ireturn, 1) := by decide +kernel
theorem dX11_task_46 : decode cX11_task 46 = .ok (.aload 4, 2) := by decide +kernel
theorem dX11_task_48 : decode cX11_task 48 = .ok (.iload_n 2, 1) := by decide +kernel
theorem dX11_task_49 : decode cX11_task 49 = .ok (.invokevirtual 136, 3) := by decide +kernel
theorem dX11_task_52 : decode cX11_task 52 = .ok (.ifCond .ne 6, 3) := by decide +kernel
theorem dX11_task_55 : decode cX11_task 55 = .ok (.bipush (-2), 2) := by decide +kernel
theorem dX11_task_57 : decode cX11_task 57 = .ok (.ireturn, 1) := by decide +kernel
theorem dX11_task_58 : decode cX11_task 58 = .ok (.iload_n 3, 1) := by decide +kernel
theorem dX11_task_59 : decode cX11_task 59 = .ok (.ifCond .ne 11, 3) := by decide +kernel
theorem dX11_task_62 : decode cX11_task 62 = .ok (.aload 4, 2) := by decide +kernel
theorem dX11_task_64 : decode cX11_task 64 = .ok (.getfield 140, 3) := by decide +kernel
theorem dX11_task_67 : decode cX11_task 67 = .ok (.iload_n 2, 1) := by decide +kernel
theorem dX11_task_68 : decode cX11_task 68 = .ok (.iaload, 1) := by decide +kernel
theorem dX11_task_69 : decode cX11_task 69 = .ok (.ireturn, 1) := by decide +kernel
theorem dX11_task_70 : decode cX11_task 70 = .ok (.iload_n 3, 1) := by decide +kernel
theorem dX11_task_71 : decode cX11_task 71 = .ok (.bipush 10, 2) := by decide +kernel
theorem dX11_task_73 : decode cX11_task 73 = .ok (.if_icmp .lt 20, 3) := by decide +kernel
theorem dX11_task_76 : decode cX11_task 76 = .ok (.iload_n 3, 1) := by decide +kernel
theorem dX11_task_77 : decode cX11_task 77 = .ok (.bipush 10, 2) := by decide +kernel
theorem dX11_task_79 : decode cX11_task 79 = .ok (.bipush 10, 2) := by decide +kernel
theorem dX11_task_81 : decode cX11_task 81 = .ok (.aload 4, 2) := by decide +kernel
theorem dX11_task_83 : decode cX11_task 83 = .ok (.getfield 140, 3) := by decide +kernel
theorem dX11_task_86 : decode cX11_task 86 = .ok (.iload_n 2, 1) := by decide +kernel
theorem dX11_task_87 : decode cX11_task 87 = .ok (.iaload, 1) := by decide +kernel
theorem dX11_task_88 : decode cX11_task 88 = .ok (.imul, 1) := by decide +kernel
theorem dX11_task_89 : decode cX11_task 89 = .ok (.iadd, 1) := by decide +kernel
theorem dX11_task_90 : decode cX11_task 90 = .ok (.if_icmp .lt 6, 3) := by decide +kernel
theorem dX11_task_93 : decode cX11_task 93 = .ok (.bipush (-2), 2) := by decide +kernel
theorem dX11_task_95 : decode cX11_task 95 = .ok (.ireturn, 1) := by decide +kernel
theorem dX11_task_96 : decode cX11_task 96 = .ok (.iload_n 2, 1) := by decide +kernel
theorem dX11_task_97 : decode cX11_task 97 = .ok (.bipush 6, 2) := by decide +kernel
theorem dX11_task_99 : decode cX11_task 99 = .ok (.imul, 1) := by decide +kernel
theorem dX11_task_100 : decode cX11_task 100 = .ok (.iload_n 3, 1) := by decide +kernel
theorem dX11_task_101 : decode cX11_task 101 = .ok (.bipush 10, 2) := by decide +kernel
theorem dX11_task_103 : decode cX11_task 103 = .ok (.idiv, 1) := by decide +kernel
theorem dX11_task_104 : decode cX11_task 104 = .ok (.iadd, 1) := by decide +kernel
theorem dX11_task_105 : decode cX11_task 105 = .ok (.iconst 1, 1) := by decide +kernel
theorem dX11_task_106 : decode cX11_task 106 = .ok (.isub, 1) := by decide +kernel
theorem dX11_task_107 : decode cX11_task 107 = .ok (.istore 5, 2) := by decide +kernel
theorem dX11_task_109 : decode cX11_task 109 = .ok (.iload_n 3, 1) := by decide +kernel
theorem dX11_task_110 : decode cX11_task 110 = .ok (.bipush 10, 2) := by decide +kernel
theorem dX11_task_112 : decode cX11_task 112 = .ok (.irem, 1) := by decide +kernel
theorem dX11_task_113 : decode cX11_task 113 = .ok (.istore 6, 2) := by decide +kernel
theorem dX11_task_115 : decode cX11_task 115 = .ok (.iload 6, 2) := by decide +kernel
theorem dX11_task_117 : decode cX11_task 117 = .ok (.ifCond .ne 12, 3) := by decide +kernel
theorem dX11_task_120 : decode cX11_task 120 = .ok (.aload 4, 2) := by decide +kernel
theorem dX11_task_122 : decode cX11_task 122 = .ok (.getfield 143, 3) := by decide +kernel
theorem dX11_task_125 : decode cX11_task 125 = .ok (.iload 5, 2) := by decide +kernel
theorem dX11_task_127 : decode cX11_task 127 = .ok (.iaload, 1) := by decide +kernel
theorem dX11_task_128 : decode cX11_task 128 = .ok (.ireturn, 1) := by decide +kernel
theorem dX11_task_129 : decode cX11_task 129 = .ok (.iload 6, 2) := by decide +kernel
theorem dX11_task_131 : decode cX11_task 131 = .ok (.iconst 1, 1) := by decide +kernel
theorem dX11_task_132 : decode cX11_task 132 = .ok (.if_icmp .ne 12, 3) := by decide +kernel
theorem dX11_task_135 : decode cX11_task 135 = .ok (.aload 4, 2) := by decide +kernel
theorem dX11_task_137 : decode cX11_task 137 = .ok (.getfield 146, 3) := by decide +kernel
theorem dX11_task_140 : decode cX11_task 140 = .ok (.iload 5, 2) := by decide +kernel
theorem dX11_task_142 : decode cX11_task 142 = .ok (.iaload, 1) := by decide +kernel
theorem dX11_task_143 : decode cX11_task 143 = .ok (.ireturn, 1) := by decide +kernel
theorem dX11_task_144 : decode cX11_task 144 = .ok (.iload 6, 2) := by decide +kernel
theorem dX11_task_146 : decode cX11_task 146 = .ok (.iconst 2, 1) := by decide +kernel
theorem dX11_task_147 : decode cX11_task 147 = .ok (.if_icmp .ne 14, 3) := by decide +kernel
theorem dX11_task_150 : decode cX11_task 150 = .ok (.aload 4, 2) := by decide +kernel
theorem dX11_task_152 : decode cX11_task 152 = .ok (.getfield 149, 3) := by decide +kernel
theorem dX11_task_155 : decode cX11_task 155 = .ok (.iload 5, 2) := by decide +kernel
theorem dX11_task_157 : decode cX11_task 157 = .ok (.iaload, 1) := by decide +kernel
theorem dX11_task_158 : decode cX11_task 158 = .ok (.goto 5, 3) := by decide +kernel
theorem dX11_task_161 : decode cX11_task 161 = .ok (.bipush (-2), 2) := by decide +kernel
theorem dX11_task_163 : decode cX11_task 163 = .ok (.ireturn, 1) := by decide +kernel
theorem dX11_deed_0 : decode cX11_deed 0 = .ok (.aload_n 0, 1) := by decide +kernel
theorem dX11_deed_1 : decode cX11_deed 1 = .ok (.getfield 10, 3) := by decide +kernel
theorem dX11_deed_4 : decode cX11_deed 4 = .ok (.iconst 2, 1) := by decide +kernel
theorem dX11_deed_5 : decode cX11_deed 5 = .ok (.iload_n 1, 1) := by decide +kernel
theorem dX11_deed_6 : decode cX11_deed 6 = .ok (.invokevirtual 109, 3) := by decide +kernel
theorem dX11_deed_9 : decode cX11_deed 9 = .ok (.ifCond .ne 6, 3) := by decide +kernel
theorem dX11_deed_12 : decode cX11_deed 12 = .ok (.bipush (-2), 2) := by decide +kernel
theorem dX11_deed_14 : decode cX11_deed 14 = .ok (.ireturn, 1) := by decide +kernel
theorem dX11_deed_15 : decode cX11_deed 15 = .ok (.aload_n 0, 1) := by decide +kernel
theorem dX11_deed_16 : decode cX11_deed 16 = .ok (.getfield 10, 3) := by decide +kernel
theorem dX11_deed_19 : decode cX11_deed 19 = .ok (.getfield 152, 3) := by decide +kernel
theorem dX11_deed_22 : decode cX11_deed 22 = .ok (.iload_n 1, 1) := by decide +kernel
theorem dX11_deed_23 : decode cX11_deed 23 = .ok (.aaload, 1) := by decide +kernel
theorem dX11_deed_24 : decode cX11_deed 24 = .ok (.astore 4, 2) := by decide +kernel
theorem dX11_deed_26 : decode cX11_deed 26 = .ok (.iload_n 2, 1) := by decide +kernel
theorem dX11_deed_27 : decode cX11_deed 27 = .ok (.iconst (-1), 1) := by decide +kernel
theorem dX11_deed_28 : decode cX11_deed 28 = .ok (.if_icmp .ne 18, 3) := by decide +kernel
theorem dX11_deed_31 : decode cX11_deed 31 = .ok (.iload_n 3, 1) := by decide +kernel
theorem dX11_deed_32 : decode cX11_deed 32 = .ok (.ifCond .ne 11, 3) := by decide +kernel
theorem dX11_deed_35 : decode cX11_deed 35 = .ok (.aload 4, 2) := by decide +kernel
theorem dX11_deed_37 : decode cX11_deed 37 = .ok (.getfield 156, 3) := by decide +kernel
theorem dX11_deed_40 : decode cX11_deed 40 = .ok (.goto 5, 3) := by decide +kernel
theorem dX11_deed_43 : decode cX11_deed 43 = .ok (.bipush (-2), 2) := by decide +kernel
theorem dX11_deed_45 : decode cX11_deed 45 = .ok (.ireturn, 1) := by decide +kernel
theorem dX11_deed_46 : decode cX11_deed 46 = .ok (.iload_n 2, 1) := by decide +kernel
theorem dX11_deed_47 : decode cX11_deed 47 = .ok (.ifCond .lt 12, 3) := by decide +kernel
theorem dX11_deed_50 : decode cX11_deed 50 = .ok (.iload_n 2, 1) := by decide +kernel
theorem dX11_deed_51 : decode cX11_deed 51 = .ok (.aload 4, 2) := by decide +kernel
theorem dX11_deed_53 : decode cX11_deed 53 = .ok (.getfield 156, 3) := by decide +kernel
theorem dX11_deed_56 : decode cX11_deed 56 = .ok (.if_icmp .lt 6, 3) := by decide +kernel
theorem dX11_deed_59 : decode cX11_deed 59 = .ok (.bipush (-2), 2) := by decide +kernel
theorem dX11_deed_61 : decode cX11_deed 61 = .ok (.ireturn, 1) := by decide +kernel
theorem dX11_deed_62 : decode cX11_deed 62 = .ok (.iload_n 3, 1) := by decide +kernel
theorem dX11_deed_63 : decode cX11_deed 63 = .ok (.ifCond .ne 11, 3) := by decide +kernel
theorem dX11_deed_66 : decode cX11_deed 66 = .ok (.aload 4, 2) := by decide +kernel
theorem dX11_deed_68 : decode cX11_deed 68 = .ok (.getfield 159, 3) := by decide +kernel
theorem dX11_deed_71 : decode cX11_deed 71 = .ok (.iload_n 2, 1) := by decide +kernel
theorem dX11_deed_72 : decode cX11_deed 72 = .ok (.iaload, 1) := by decide +kernel
theorem dX11_deed_73 : decode cX11_deed 73 = .ok (.ireturn, 1) := by decide +kernel
theorem dX11_deed_74 : decode cX11_deed 74 = .ok (.iload_n 3, 1) := by decide +kernel
theorem dX11_deed_75 : decode cX11_deed 75 = .ok (.iconst 1, 1) := by decide +kernel
theorem dX11_deed_76 : decode cX11_deed 76 = .ok (.if_icmp .ne 11, 3) := by decide +kernel
theorem dX11_deed_79 : decode cX11_deed 79 = .ok (.aload 4, 2) := by decide +kernel
theorem dX11_deed_81 : decode cX11_deed 81 = .ok (.getfield 160, 3) := by decide +kernel
theorem dX11_deed_84 : decode cX11_deed 84 = .ok (.iload_n 2, 1) := by decide +kernel
theorem dX11_deed_85 : decode cX11_deed 85 = .ok (.iaload, 1) := by decide +kernel
theorem dX11_deed_86 : decode cX11_deed 86 = .ok (.ireturn, 1) := by decide +kernel
theorem dX11_deed_87 : decode cX11_deed 87 = .ok (.iload_n 3, 1) := by decide +kernel
theorem dX11_deed_88 : decode cX11_deed 88 = .ok (.iconst 2, 1) := by decide +kernel
theorem dX11_deed_89 : decode cX11_deed 89 = .ok (.if_icmp .ne 13, 3) := by decide +kernel
theorem dX11_deed_92 : decode cX11_deed 92 = .ok (.aload 4, 2) := by decide +kernel
theorem dX11_deed_94 : decode cX11_deed 94 = .ok (.getfield 163, 3) := by decide +kernel
theorem dX11_deed_97 : decode cX11_deed 97 = .ok (.iload_n 2, 1) := by decide +kernel
theorem dX11_deed_98 : decode cX11_deed 98 = .ok (.iaload, 1) := by decide +kernel
theorem dX11_deed_99 : decode cX11_deed 99 = .ok (.goto 5, 3) := by decide +kernel
theorem dX11_deed_102 : decode cX11_deed 102 = .ok (.bipush (-2), 2) := by decide +kernel
theorem dX11_deed_104 : decode cX11_deed 104 = .ok (.ireturn, 1) := by decide +kernel
theorem dX11_stop_0 : decode cX11_stop 0 = .ok (.aload_n 0, 1) := by decide +kernel
theorem dX11_stop_1 : decode cX11_stop 1 = .ok (.iload_n 1, 1) := by decide +kernel
theorem dX11_stop_2 : decode cX11_stop 2 = .ok (.iload_n 2, 1) := by decide +kernel
theorem dX11_stop_3 : decode cX11_stop 3 = .ok (.iload_n 3, 1) := by decide +kernel
theorem dX11_stop_4 : decode cX11_stop 4 = .ok (.bipush 40, 2) := by decide +kernel
theorem dX11_stop_6 : decode cX11_stop 6 = .ok (.invokevirtual 166, 3) := by decide +kernel
theorem dX11_stop_9 : decode cX11_stop 9 = .ok (.ifCond .eq 13, 3) := by decide +kernel
theorem dX11_stop_12 : decode cX11_stop 12 = .ok (.aload_n 0, 1) := by decide +kernel
theorem dX11_stop_13 : decode cX11_stop 13 = .ok (.getfield 50, 3) := by decide +kernel
theorem dX11_stop_16 : decode cX11_stop 16 = .ok (.getfield 170, 3) := by decide +kernel
theorem dX11_stop_19 : decode cX11_stop 19 = .ok (.goto 4, 3) := by decide +kernel
theorem dX11_stop_22 : decode cX11_stop 22 = .ok (.iconst (-1), 1) := by decide +kernel
theorem dX11_stop_23 : decode cX11_stop 23 = .ok (.ireturn, 1) := by decide +kernel
theorem dX11_state_0 : decode cX11_state 0 = .ok (.iload 4, 2) := by decide +kernel
theorem dX11_state_2 : decode cX11_state 2 = .ok (.ifCond .lt 27, 3) := by decide +kernel
theorem dX11_state_5 : decode cX11_state 5 = .ok (.aload_n 0, 1) := by decide +kernel
theorem dX11_state_6 : decode cX11_state 6 = .ok (.iload_n 1, 1) := by decide +kernel
theorem dX11_state_7 : decode cX11_state 7 = .ok (.iload_n 2, 1) := by decide +kernel
theorem dX11_state_8 : decode cX11_state 8 = .ok (.iload_n 3, 1) := by decide +kernel
theorem dX11_state_9 : decode cX11_state 9 = .ok (.iload 4, 2) := by decide +kernel
theorem dX11_state_11 : decode cX11_state 11 = .ok (.invokevirtual 166, 3) := by decide +kernel
theorem dX11_state_14 : decode cX11_state 14 = .ok (.ifCond .eq 15, 3) := by decide +kernel
theorem dX11_state_17 : decode cX11_state 17 = .ok (.aload_n 0, 1) := by decide +kernel
theorem dX11_state_18 : decode cX11_state 18 = .ok (.getfield 50, 3) := by decide +kernel
theorem dX11_state_21 : decode cX11_state 21 = .ok (.getfield 170, 3) := by decide +kernel
theorem dX11_state_24 : decode cX11_state 24 = .ok (.iload 4, 2) := by decide +kernel
theorem dX11_state_26 : decode cX11_state 26 = .ok (.if_icmp .ge 6, 3) := by decide +kernel
theorem dX11_state_29 : decode cX11_state 29 = .ok (.bipush (-2), 2) := by decide +kernel
theorem dX11_state_31 : decode cX11_state 31 = .ok (.ireturn, 1) := by decide +kernel
theorem dX11_state_32 : decode cX11_state 32 = .ok (.iload 5, 2) := by decide +kernel
theorem dX11_state_34 : decode cX11_state 34 = .ok (.iconst 5, 1) := by decide +kernel
theorem dX11_state_35 : decode cX11_state 35 = .ok (.if_icmp .ne 11, 3) := by decide +kernel
theorem dX11_state_38 : decode cX11_state 38 = .ok (.aload_n 0, 1) := by decide +kernel
theorem dX11_state_39 : decode cX11_state 39 = .ok (.getfield 50, 3) := by decide +kernel
theorem dX11_state_42 : decode cX11_state 42 = .ok (.invokevirtual 173, 3) := by decide +kernel
theorem dX11_state_45 : decode cX11_state 45 = .ok (.ireturn, 1) := by decide +kernel
theorem dX11_state_46 : decode cX11_state 46 = .ok (.iload 5, 2) := by decide +kernel
theorem dX11_state_48 : decode cX11_state 48 = .ok (.bipush 30, 2) := by decide +kernel
theorem dX11_state_50 : decode cX11_state 50 = .ok (.invokestatic 128, 3) := by decide +kernel
theorem dX11_state_53 : decode cX11_state 53 = .ok (.ifCond .eq 30, 3) := by decide +kernel
theorem dX11_state_56 : decode cX11_state 56 = .ok (.aload_n 0, 1) := by decide +kernel
theorem dX11_state_57 : decode cX11_state 57 = .ok (.getfield 50, 3) := by decide +kernel
theorem dX11_state_60 : decode cX11_state 60 = .ok (.iconst 0, 1) := by decide +kernel
theorem dX11_state_61 : decode cX11_state 61 = .ok (.aload_n 0, 1) := by decide +kernel
theorem dX11_state_62 : decode cX11_state 62 = .ok (.getfield 72, 3) := by decide +kernel
theorem dX11_state_65 : decode cX11_state 65 = .ok (.aload_n 0, 1) := by decide +kernel
theorem dX11_state_66 : decode cX11_state 66 = .ok (.getfield 75, 3) := by decide +kernel
theorem dX11_state_69 : decode cX11_state 69 = .ok (.invokevirtual 177, 3) := by decide +kernel
theorem dX11_state_72 : decode cX11_state 72 = .ok (.aload_n 0, 1) := by decide +kernel
theorem dX11_state_73 : decode cX11_state 73 = .ok (.getfield 72, 3) := by decide +kernel
theorem dX11_state_76 : decode cX11_state 76 = .ok (.iload 5, 2) := by decide +kernel
theorem dX11_state_78 : decode cX11_state 78 = .ok (.bipush 30, 2) := by decide +kernel
theorem dX11_state_80 : decode cX11_state 80 = .ok (.isub, 1) := by decide +kernel
theorem dX11_state_81 : decode cX11_state 81 = .ok (.iaload, 1) := by decide +kernel
theorem dX11_state_82 : decode cX11_state 82 = .ok (.ireturn, 1) := by decide +kernel
theorem dX11_state_83 : decode cX11_state 83 = .ok (.aload_n 0, 1) := by decide +kernel
theorem dX11_state_84 : decode cX11_state 84 = .ok (.getfield 50, 3) := by decide +kernel
theorem dX11_state_87 : decode cX11_state 87 = .ok (.iload 5, 2) := by decide +kernel
theorem dX11_state_89 : decode cX11_state 89 = .ok (.invokevirtual 181, 3) := by decide +kernel
theorem dX11_state_92 : decode cX11_state 92 = .ok (.ireturn, 1) := by decide +kernel
theorem dX11_why_0 : decode cX11_why 0 = .ok (.aload_n 0, 1) := by decide +kernel
theorem dX11_why_1 : decode cX11_why 1 = .ok (.iload_n 1, 1) := by decide +kernel
theorem dX11_why_2 : decode cX11_why 2 = .ok (.iload_n 2, 1) := by decide +kernel
theorem dX11_why_3 : decode cX11_why 3 = .ok (.iload_n 3, 1) := by decide +kernel
theorem dX11_why_4 : decode cX11_why 4 = .ok (.bipush 40, 2) := by decide +kernel
theorem dX11_why_6 : decode cX11_why 6 = .ok (.invokevirtual 166, 3) := by decide +kernel
theorem dX11_why_9 : decode cX11_why 9 = .ok (.ifCond .eq 20, 3) := by decide +kernel
theorem dX11_why_12 : decode cX11_why 12 = .ok (.iload 4, 2) := by decide +kernel
theorem dX11_why_14 : decode cX11_why 14 = .ok (.ifCond .lt 15, 3) := by decide +kernel
theorem dX11_why_17 : decode cX11_why 17 = .ok (.iload 4, 2) := by decide +kernel
theorem dX11_why_19 : decode cX11_why 19 = .ok (.aload_n 0, 1) := by decide +kernel
theorem dX11_why_20 : decode cX11_why 20 = .ok (.getfield 50, 3) := by decide +kernel
theorem dX11_why_23 : decode cX11_why 23 = .ok (.getfield 170, 3) := by decide +kernel
theorem dX11_why_26 : decode cX11_why 26 = .ok (.if_icmp .lt 6, 3) := by decide +kernel
theorem dX11_why_29 : decode cX11_why 29 = .ok (.bipush (-2), 2) := by decide +kernel
theorem dX11_why_31 : decode cX11_why 31 = .ok (.ireturn, 1) := by decide +kernel
theorem dX11_why_32 : decode cX11_why 32 = .ok (.iload 5, 2) := by decide +kernel
theorem dX11_why_34 : decode cX11_why 34 = .ok (.ifCond .ne 14, 3) := by decide +kernel
theorem dX11_why_37 : decode cX11_why 37 = .ok (.aload_n 0, 1) := by decide +kernel
theorem dX11_why_38 : decode cX11_why 38 = .ok (.getfield 50, 3) := by decide +kernel
theorem dX11_why_41 : decode cX11_why 41 = .ok (.getfield 185, 3) := by decide +kernel
theorem dX11_why_44 : decode cX11_why 44 = .ok (.iload 4, 2) := by decide +kernel
theorem dX11_why_46 : decode cX11_why 46 = .ok (.iaload, 1) := by decide +kernel
theorem dX11_why_47 : decode cX11_why 47 = .ok (.ireturn, 1) := by decide +kernel
theorem dX11_why_48 : decode cX11_why 48 = .ok (.iload 5, 2) := by decide +kernel
theorem dX11_why_50 : decode cX11_why 50 = .ok (.iconst 1, 1) := by decide +kernel
theorem dX11_why_51 : decode cX11_why 51 = .ok (.if_icmp .ne 14, 3) := by decide +kernel
theorem dX11_why_54 : decode cX11_why 54 = .ok (.aload_n 0, 1) := by decide +kernel
theorem dX11_why_55 : decode cX11_why 55 = .ok (.getfield 50, 3) := by decide +kernel
theorem dX11_why_58 : decode cX11_why 58 = .ok (.getfield 188, 3) := by decide +kernel
theorem dX11_why_61 : decode cX11_why 61 = .ok (.iload 4, 2) := by decide +kernel
theorem dX11_why_63 : decode cX11_why 63 = .ok (.iaload, 1) := by decide +kernel
theorem dX11_why_64 : decode cX11_why 64 = .ok (.ireturn, 1) := by decide +kernel
theorem dX11_why_65 : decode cX11_why 65 = .ok (.iload 5, 2) := by decide +kernel
theorem dX11_why_67 : decode cX11_why 67 = .ok (.iconst 2, 1) := by decide +kernel
theorem dX11_why_68 : decode cX11_why 68 = .ok (.if_icmp .ne 14, 3) := by decide +kernel
theorem dX11_why_71 : decode cX11_why 71 = .ok (.aload_n 0, 1) := by decide +kernel
theorem dX11_why_72 : decode cX11_why 72 = .ok (.getfield 50, 3) := by decide +kernel
theorem dX11_why_75 : decode cX11_why 75 = .ok (.getfield 191, 3) := by decide +kernel
theorem dX11_why_78 : decode cX11_why 78 = .ok (.iload 4, 2) := by decide +kernel
theorem dX11_why_80 : decode cX11_why 80 = .ok (.iaload, 1) := by decide +kernel
theorem dX11_why_81 : decode cX11_why 81 = .ok (.ireturn, 1) := by decide +kernel
theorem dX11_why_82 : decode cX11_why 82 = .ok (.iload 5, 2) := by decide +kernel
theorem dX11_why_84 : decode cX11_why 84 = .ok (.iconst 3, 1) := by decide +kernel
theorem dX11_why_85 : decode cX11_why 85 = .ok (.if_icmp .ne 16, 3) := by decide +kernel
theorem dX11_why_88 : decode cX11_why 88 = .ok (.aload_n 0, 1) := by decide +kernel
theorem dX11_why_89 : decode cX11_why 89 = .ok (.getfield 50, 3) := by decide +kernel
theorem dX11_why_92 : decode cX11_why 92 = .ok (.getfield 194, 3) := by decide +kernel
theorem dX11_why_95 : decode cX11_why 95 = .ok (.iload 4, 2) := by decide +kernel
theorem dX11_why_97 : decode cX11_why 97 = .ok (.iaload, 1) := by decide +kernel
theorem dX11_why_98 : decode cX11_why 98 = .ok (.goto 5, 3) := by decide +kernel
theorem dX11_why_101 : decode cX11_why 101 = .ok (.bipush (-2), 2) := by decide +kernel
theorem dX11_why_103 : decode cX11_why 103 = .ok (.ireturn, 1) := by decide +kernel
theorem dX11_serial_0 : decode cX11_serial 0 = .ok (.aload_n 0, 1) := by decide +kernel
theorem dX11_serial_1 : decode cX11_serial 1 = .ok (.iload_n 1, 1) := by decide +kernel
theorem dX11_serial_2 : decode cX11_serial 2 = .ok (.iload_n 2, 1) := by decide +kernel
theorem dX11_serial_3 : decode cX11_serial 3 = .ok (.iload_n 3, 1) := by decide +kernel
theorem dX11_serial_4 : decode cX11_serial 4 = .ok (.bipush 40, 2) := by decide +kernel
theorem dX11_serial_6 : decode cX11_serial 6 = .ok (.invokevirtual 166, 3) := by decide +kernel
theorem dX11_serial_9 : decode cX11_serial 9 = .ok (.ifCond .ne 5, 3) := by decide +kernel
theorem dX11_serial_12 : decode cX11_serial 12 = .ok (.iconst (-1), 1) := by decide +kernel
theorem dX11_serial_13 : decode cX11_serial 13 = .ok (.ireturn, 1) := by decide +kernel
theorem dX11_serial_14 : decode cX11_serial 14 = .ok (.aload_n 0, 1) := by decide +kernel
theorem dX11_serial_15 : decode cX11_serial 15 = .ok (.getfield 57, 3) := by decide +kernel
theorem dX11_serial_18 : decode cX11_serial 18 = .ok (.aload_n 0, 1) := by decide +kernel
theorem dX11_serial_19 : decode cX11_serial 19 = .ok (.getfield 50, 3) := by decide +kernel
theorem dX11_serial_22 : decode cX11_serial 22 = .ok (.invokevirtual 197, 3) := by decide +kernel
theorem dX11_serial_25 : decode cX11_serial 25 = .ok (.iload 4, 2) := by decide +kernel
theorem dX11_serial_27 : decode cX11_serial 27 = .ok (.ifCond .ne 11, 3) := by decide +kernel
theorem dX11_serial_30 : decode cX11_serial 30 = .ok (.aload_n 0, 1) := by decide +kernel
theorem dX11_serial_31 : decode cX11_serial 31 = .ok (.getfield 57, 3) := by decide +kernel
theorem dX11_serial_34 : decode cX11_serial 34 = .ok (.getfield 201, 3) := by decide +kernel
theorem dX11_serial_37 : decode cX11_serial 37 = .ok (.ireturn, 1) := by decide +kernel
theorem dX11_serial_38 : decode cX11_serial 38 = .ok (.iload 4, 2) := by decide +kernel
theorem dX11_serial_40 : decode cX11_serial 40 = .ok (.iconst 1, 1) := by decide +kernel
theorem dX11_serial_41 : decode cX11_serial 41 = .ok (.if_icmp .eq 13, 3) := by decide +kernel
theorem dX11_serial_44 : decode cX11_serial 44 = .ok (.iload 4, 2) := by decide +kernel
theorem dX11_serial_46 : decode cX11_serial 46 = .ok (.bipush 50, 2) := by decide +kernel
theorem dX11_serial_48 : decode cX11_serial 48 = .ok (.invokestatic 128, 3) := by decide +kernel
theorem dX11_serial_51 : decode cX11_serial 51 = .ok (.ifCond .eq 10, 3) := by decide +kernel
theorem dX11_serial_54 : decode cX11_serial 54 = .ok (.aload_n 0, 1) := by decide +kernel
theorem dX11_serial_55 : decode cX11_serial 55 = .ok (.iload 4, 2) := by decide +kernel
theorem dX11_serial_57 : decode cX11_serial 57 = .ok (.invokevirtual 202, 3) := by decide +kernel
theorem dX11_serial_60 : decode cX11_serial 60 = .ok (.ireturn, 1) := by decide +kernel
theorem dX11_serial_61 : decode cX11_serial 61 = .ok (.iload 4, 2) := by decide +kernel
theorem dX11_serial_63 : decode cX11_serial 63 = .ok (.bipush 10, 2) := by decide +kernel
theorem dX11_serial_65 : decode cX11_serial 65 = .ok (.if_icmp .lt 25, 3) := by decide +kernel
theorem dX11_serial_68 : decode cX11_serial 68 = .ok (.iload 4, 2) := by decide +kernel
theorem dX11_serial_70 : decode cX11_serial 70 = .ok (.bipush 40, 2) := by decide +kernel
theorem dX11_serial_72 : decode cX11_serial 72 = .ok (.if_icmp .ge 18, 3) := by decide +kernel
theorem dX11_serial_75 : decode cX11_serial 75 = .ok (.iload 4, 2) := by decide +kernel
theorem dX11_serial_77 : decode cX11_serial 77 = .ok (.bipush 10, 2) := by decide +kernel
theorem dX11_serial_79 : decode cX11_serial 79 = .ok (.irem, 1) := by decide +kernel
theorem dX11_serial_80 : decode cX11_serial 80 = .ok (.aload_n 0, 1) := by decide +kernel
theorem dX11_serial_81 : decode cX11_serial 81 = .ok (.getfield 57, 3) := by decide +kernel
theorem dX11_serial_84 : decode cX11_serial 84 = .ok (.getfield 201, 3) := by decide +kernel
theorem dX11_serial_87 : decode cX11_serial 87 = .ok (.if_icmp .lt 5, 3) := by decide +kernel
theorem dX11_serial_90 : decode cX11_serial 90 = .ok (.iconst (-1), 1) := by decide +kernel
theorem dX11_serial_91 : decode cX11_serial 91 = .ok (.ireturn, 1) := by decide +kernel
theorem dX11_serial_92 : decode cX11_serial 92 = .ok (.iload 4, 2) := by decide +kernel
theorem dX11_serial_94 : decode cX11_serial 94 = .ok (.bipush 10, 2) := by decide +kernel
theorem dX11_serial_96 : decode cX11_serial 96 = .ok (.irem, 1) := by decide +kernel
theorem dX11_serial_97 : decode cX11_serial 97 = .ok (.istore 5, 2) := by decide +kernel
theorem dX11_serial_99 : decode cX11_serial 99 = .ok (.iload 4, 2) := by decide +kernel
theorem dX11_serial_101 : decode cX11_serial 101 = .ok (.bipush 20, 2) := by decide +kernel
theorem dX11_serial_103 : decode cX11_serial 103 = .ok (.if_icmp .ge 17, 3) := by decide +kernel
theorem dX11_serial_106 : decode cX11_serial 106 = .ok (.aload_n 0, 1) := by decide +kernel
theorem dX11_serial_107 : decode cX11_serial 107 = .ok (.getfield 57, 3) := by decide +kernel
theorem dX11_serial_110 : decode cX11_serial 110 = .ok (.getfield 205, 3) := by decide +kernel
theorem dX11_serial_113 : decode cX11_serial 113 = .ok (.iload 5, 2) := by decide +kernel
theorem dX11_serial_115 : decode cX11_serial 115 = .ok (.aaload, 1) := by decide +kernel
theorem dX11_serial_116 : decode cX11_serial 116 = .ok (.getfield 209, 3) := by decide +kernel
theorem dX11_serial_119 : decode cX11_serial 119 = .ok (.ireturn, 1) := by decide +kernel
theorem dX11_serial_120 : decode cX11_serial 120 = .ok (.iload 4, 2) := by decide +kernel
theorem dX11_serial_122 : decode cX11_serial 122 = .ok (.bipush 30, 2) := by decide +kernel
theorem dX11_serial_124 : decode cX11_serial 124 = .ok (.if_icmp .ge 19, 3) := by decide +kernel
theorem dX11_serial_127 : decode cX11_serial 127 = .ok (.aload_n 0, 1) := by decide +kernel
theorem dX11_serial_128 : decode cX11_serial 128 = .ok (.getfield 57, 3) := by decide +kernel
theorem dX11_serial_131 : decode cX11_serial 131 = .ok (.getfield 205, 3) := by decide +kernel
theorem dX11_serial_134 : decode cX11_serial 134 = .ok (.iload 5, 2) := by decide +kernel
theorem dX11_serial_136 : decode cX11_serial 136 = .ok (.aaload, 1) := by decide +kernel
theorem dX11_serial_137 : decode cX11_serial 137 = .ok (.getfield 213, 3) := by decide +kernel
theorem dX11_serial_140 : decode cX11_serial 140 = .ok (.goto 12, 3) := by decide +kernel
theorem dX11_serial_143 : decode cX11_serial 143 = .ok (.aload_n 0, 1) := by decide +kernel
theorem dX11_serial_144 : decode cX11_serial 144 = .ok (.getfield 57, 3) := by decide +kernel
theorem dX11_serial_147 : decode cX11_serial 147 = .ok (.iload 5, 2) := by decide +kernel
theorem dX11_serial_149 : decode cX11_serial 149 = .ok (.invokevirtual 216, 3) := by decide +kernel
theorem dX11_serial_152 : decode cX11_serial 152 = .ok (.ireturn, 1) := by decide +kernel
theorem dX11_fact_0 : decode cX11_fact 0 = .ok (.aload_n 0, 1) := by decide +kernel
theorem dX11_fact_1 : decode cX11_fact 1 = .ok (.getfield 10, 3) := by decide +kernel
theorem dX11_fact_4 : decode cX11_fact 4 = .ok (.iconst 3, 1) := by decide +kernel
theorem dX11_fact_5 : decode cX11_fact 5 = .ok (.iload_n 1, 1) := by decide +kernel
theorem dX11_fact_6 : decode cX11_fact 6 = .ok (.invokevirtual 109, 3) := by decide +kernel
theorem dX11_fact_9 : decode cX11_fact 9 = .ok (.ifCond .ne 6, 3) := by decide +kernel
theorem dX11_fact_12 : decode cX11_fact 12 = .ok (.bipush (-2), 2) := by decide +kernel
theorem dX11_fact_14 : decode cX11_fact 14 = .ok (.ireturn, 1) := by decide +kernel
theorem dX11_fact_15 : decode cX11_fact 15 = .ok (.aload_n 0, 1) := by decide +kernel
theorem dX11_fact_16 : decode cX11_fact 16 = .ok (.getfield 10, 3) := by decide +kernel
theorem dX11_fact_19 : decode cX11_fact 19 = .ok (.getfield 219, 3) := by decide +kernel
theorem dX11_fact_22 : decode cX11_fact 22 = .ok (.iload_n 1, 1) := by decide +kernel
theorem dX11_fact_23 : decode cX11_fact 23 = .ok (.aaload, 1) := by decide +kernel
theorem dX11_fact_24 : decode cX11_fact 24 = .ok (.astore 4, 2) := by decide +kernel
theorem dX11_fact_26 : decode cX11_fact 26 = .ok (.iload_n 2, 1) := by decide +kernel
theorem dX11_fact_27 : decode cX11_fact 27 = .ok (.iconst (-1), 1) := by decide +kernel
theorem dX11_fact_28 : decode cX11_fact 28 = .ok (.if_icmp .ne 18, 3) := by decide +kernel
theorem dX11_fact_31 : decode cX11_fact 31 = .ok (.iload_n 3, 1) := by decide +kernel
theorem dX11_fact_32 : decode cX11_fact 32 = .ok (.ifCond .ne 11, 3) := by decide +kernel
theorem dX11_fact_35 : decode cX11_fact 35 = .ok (.aload 4, 2) := by decide +kernel
theorem dX11_fact_37 : decode cX11_fact 37 = .ok (.getfield 223, 3) := by decide +kernel
theorem dX11_fact_40 : decode cX11_fact 40 = .ok (.goto 5, 3) := by decide +kernel
theorem dX11_fact_43 : decode cX11_fact 43 = .ok (.bipush (-2), 2) := by decide +kernel
theorem dX11_fact_45 : decode cX11_fact 45 = .ok (.ireturn, 1) := by decide +kernel
theorem dX11_fact_46 : decode cX11_fact 46 = .ok (.iload_n 2, 1) := by decide +kernel
theorem dX11_fact_47 : decode cX11_fact 47 = .ok (.ifCond .lt 12, 3) := by decide +kernel
theorem dX11_fact_50 : decode cX11_fact 50 = .ok (.iload_n 2, 1) := by decide +kernel
theorem dX11_fact_51 : decode cX11_fact 51 = .ok (.aload 4, 2) := by decide +kernel
theorem dX11_fact_53 : decode cX11_fact 53 = .ok (.getfield 223, 3) := by decide +kernel
theorem dX11_fact_56 : decode cX11_fact 56 = .ok (.if_icmp .lt 6, 3) := by decide +kernel
theorem dX11_fact_59 : decode cX11_fact 59 = .ok (.bipush (-2), 2) := by decide +kernel
theorem dX11_fact_61 : decode cX11_fact 61 = .ok (.ireturn, 1) := by decide +kernel
theorem dX11_fact_62 : decode cX11_fact 62 = .ok (.iload_n 3, 1) := by decide +kernel
theorem dX11_fact_63 : decode cX11_fact 63 = .ok (.ifCond .ne 11, 3) := by decide +kernel
theorem dX11_fact_66 : decode cX11_fact 66 = .ok (.aload 4, 2) := by decide +kernel
theorem dX11_fact_68 : decode cX11_fact 68 = .ok (.getfield 226, 3) := by decide +kernel
theorem dX11_fact_71 : decode cX11_fact 71 = .ok (.iload_n 2, 1) := by decide +kernel
theorem dX11_fact_72 : decode cX11_fact 72 = .ok (.iaload, 1) := by decide +kernel
theorem dX11_fact_73 : decode cX11_fact 73 = .ok (.ireturn, 1) := by decide +kernel
theorem dX11_fact_74 : decode cX11_fact 74 = .ok (.iload_n 3, 1) := by decide +kernel
theorem dX11_fact_75 : decode cX11_fact 75 = .ok (.iconst 1, 1) := by decide +kernel
theorem dX11_fact_76 : decode cX11_fact 76 = .ok (.if_icmp .ne 13, 3) := by decide +kernel
theorem dX11_fact_79 : decode cX11_fact 79 = .ok (.aload 4, 2) := by decide +kernel
theorem dX11_fact_81 : decode cX11_fact 81 = .ok (.getfield 227, 3) := by decide +kernel
theorem dX11_fact_84 : decode cX11_fact 84 = .ok (.iload_n 2, 1) := by decide +kernel
theorem dX11_fact_85 : decode cX11_fact 85 = .ok (.iaload, 1) := by decide +kernel
theorem dX11_fact_86 : decode cX11_fact 86 = .ok (.goto 5, 3) := by decide +kernel
theorem dX11_fact_89 : decode cX11_fact 89 = .ok (.bipush (-2), 2) := by decide +kernel
theorem dX11_fact_91 : decode cX11_fact 91 = .ok (.ireturn, 1) := by decide +kernel
theorem dX11_fits_0 : decode cX11_fits 0 = .ok (.aload_n 0, 1) := by decide +kernel
theorem dX11_fits_1 : decode cX11_fits 1 = .ok (.getfield 10, 3) := by decide +kernel
theorem dX11_fits_4 : decode cX11_fits 4 = .ok (.iconst 3, 1) := by decide +kernel
theorem dX11_fits_5 : decode cX11_fits 5 = .ok (.iload 4, 2) := by decide +kernel
theorem dX11_fits_7 : decode cX11_fits 7 = .ok (.invokevirtual 109, 3) := by decide +kernel
theorem dX11_fits_10 : decode cX11_fits 10 = .ok (.ifCond .eq 15, 3) := by decide +kernel
theorem dX11_fits_13 : decode cX11_fits 13 = .ok (.aload_n 0, 1) := by decide +kernel
theorem dX11_fits_14 : decode cX11_fits 14 = .ok (.iload_n 1, 1) := by decide +kernel
theorem dX11_fits_15 : decode cX11_fits 15 = .ok (.iload_n 2, 1) := by decide +kernel
theorem dX11_fits_16 : decode cX11_fits 16 = .ok (.iload_n 3, 1) := by decide +kernel
theorem dX11_fits_17 : decode cX11_fits 17 = .ok (.bipush 40, 2) := by decide +kernel
theorem dX11_fits_19 : decode cX11_fits 19 = .ok (.invokevirtual 166, 3) := by decide +kernel
theorem dX11_fits_22 : decode cX11_fits 22 = .ok (.ifCond .ne 6, 3) := by decide +kernel
theorem dX11_fits_25 : decode cX11_fits 25 = .ok (.bipush (-2), 2) := by decide +kernel
theorem dX11_fits_27 : decode cX11_fits 27 = .ok (.ireturn, 1) := by decide +kernel
theorem dX11_fits_28 : decode cX11_fits 28 = .ok (.aload_n 0, 1) := by decide +kernel
theorem dX11_fits_29 : decode cX11_fits 29 = .ok (.getfield 64, 3) := by decide +kernel
theorem dX11_fits_32 : decode cX11_fits 32 = .ok (.aload_n 0, 1) := by decide +kernel
theorem dX11_fits_33 : decode cX11_fits 33 = .ok (.getfield 50, 3) := by decide +kernel
theorem dX11_fits_36 : decode cX11_fits 36 = .ok (.aload_n 0, 1) := by decide +kernel
theorem dX11_fits_37 : decode cX11_fits 37 = .ok (.getfield 10, 3) := by decide +kernel
theorem dX11_fits_40 : decode cX11_fits 40 = .ok (.getfield 219, 3) := by decide +kernel
theorem dX11_fits_43 : decode cX11_fits 43 = .ok (.iload 4, 2) := by decide +kernel
theorem dX11_fits_45 : decode cX11_fits 45 = .ok (.aaload, 1) := by decide +kernel
theorem dX11_fits_46 : decode cX11_fits 46 = .ok (.invokevirtual 228, 3) := by decide +kernel
theorem dX11_fits_49 : decode cX11_fits 49 = .ok (.iload 5, 2) := by decide +kernel
theorem dX11_fits_51 : decode cX11_fits 51 = .ok (.ifCond .ne 11, 3) := by decide +kernel
theorem dX11_fits_54 : decode cX11_fits 54 = .ok (.aload_n 0, 1) := by decide +kernel
theorem dX11_fits_55 : decode cX11_fits 55 = .ok (.getfield 64, 3) := by decide +kernel
theorem dX11_fits_58 : decode cX11_fits 58 = .ok (.getfield 231, 3) := by decide +kernel
theorem dX11_fits_61 : decode cX11_fits 61 = .ok (.ireturn, 1) := by decide +kernel
theorem dX11_fits_62 : decode cX11_fits 62 = .ok (.iload 5, 2) := by decide +kernel
theorem dX11_fits_64 : decode cX11_fits 64 = .ok (.iconst 1, 1) := by decide +kernel
theorem dX11_fits_65 : decode cX11_fits 65 = .ok (.if_icmp .ne 11, 3) := by decide +kernel
theorem dX11_fits_68 : decode cX11_fits 68 = .ok (.aload_n 0, 1) := by decide +kernel
theorem dX11_fits_69 : decode cX11_fits 69 = .ok (.getfield 64, 3) := by decide +kernel
theorem dX11_fits_72 : decode cX11_fits 72 = .ok (.invokevirtual 232, 3) := by decide +kernel
theorem dX11_fits_75 : decode cX11_fits 75 = .ok (.ireturn, 1) := by decide +kernel
theorem dX11_fits_76 : decode cX11_fits 76 = .ok (.iload 5, 2) := by decide +kernel
theorem dX11_fits_78 : decode cX11_fits 78 = .ok (.iconst 2, 1) := by decide +kernel
theorem dX11_fits_79 : decode cX11_fits 79 = .ok (.if_icmp .ne 11, 3) := by decide +kernel
theorem dX11_fits_82 : decode cX11_fits 82 = .ok (.aload_n 0, 1) := by decide +kernel
theorem dX11_fits_83 : decode cX11_fits 83 = .ok (.getfield 64, 3) := by decide +kernel
theorem dX11_fits_86 : decode cX11_fits 86 = .ok (.invokevirtual 235, 3) := by decide +kernel
theorem dX11_fits_89 : decode cX11_fits 89 = .ok (.ireturn, 1) := by decide +kernel
theorem dX11_fits_90 : decode cX11_fits 90 = .ok (.iload 5, 2) := by decide +kernel
theorem dX11_fits_92 : decode cX11_fits 92 = .ok (.iconst 3, 1) := by decide +kernel
theorem dX11_fits_93 : decode cX11_fits 93 = .ok (.if_icmp .lt 40, 3) := by decide +kernel
theorem dX11_fits_96 : decode cX11_fits 96 = .ok (.iload 5, 2) := by decide +kernel
theorem dX11_fits_98 : decode cX11_fits 98 = .ok (.bipush 7, 2) := by decide +kernel
theorem dX11_fits_100 : decode cX11_fits 100 = .ok (.if_icmp .ge 33, 3) := by decide +kernel
theorem dX11_fits_103 : decode cX11_fits 103 = .ok (.iload 5, 2) := by decide +kernel
theorem dX11_fits_105 : decode cX11_fits 105 = .ok (.iconst 3, 1) := by decide +kernel
theorem dX11_fits_106 : decode cX11_fits 106 = .ok (.isub, 1) := by decide +kernel
theorem dX11_fits_107 : decode cX11_fits 107 = .ok (.aload_n 0, 1) := by decide +kernel
theorem dX11_fits_108 : decode cX11_fits 108 = .ok (.getfield 50, 3) := by decide +kernel
theorem dX11_fits_111 : decode cX11_fits 111 = .ok (.getfield 238, 3) := by decide +kernel
theorem dX11_fits_114 : decode cX11_fits 114 = .ok (.if_icmp .ge 17, 3) := by decide +kernel
theorem dX11_fits_117 : decode cX11_fits 117 = .ok (.aload_n 0, 1) := by decide +kernel
theorem dX11_fits_118 : decode cX11_fits 118 = .ok (.getfield 64, 3) := by decide +kernel
theorem dX11_fits_121 : decode cX11_fits 121 = .ok (.iload 5, 2) := by decide +kernel
theorem dX11_fits_123 : decode cX11_fits 123 = .ok (.iconst 3, 1) := by decide +kernel
theorem dX11_fits_124 : decode cX11_fits 124 = .ok (.isub, 1) := by decide +kernel
theorem dX11_fits_125 : decode cX11_fits 125 = .ok (.invokevirtual 239, 3) := by decide +kernel
theorem dX11_fits_128 : decode cX11_fits 128 = .ok (.goto 4, 3) := by decide +kernel
theorem dX11_fits_131 : decode cX11_fits 131 = .ok (.iconst (-1), 1) := by decide +kernel
theorem dX11_fits_132 : decode cX11_fits 132 = .ok (.ireturn, 1) := by decide +kernel
theorem dX11_fits_133 : decode cX11_fits 133 = .ok (.iload 5, 2) := by decide +kernel
theorem dX11_fits_135 : decode cX11_fits 135 = .ok (.bipush 10, 2) := by decide +kernel
theorem dX11_fits_137 : decode cX11_fits 137 = .ok (.if_icmp .lt 34, 3) := by decide +kernel
theorem dX11_fits_140 : decode cX11_fits 140 = .ok (.iload 5, 2) := by decide +kernel
theorem dX11_fits_142 : decode cX11_fits 142 = .ok (.bipush 10, 2) := by decide +kernel
theorem dX11_fits_144 : decode cX11_fits 144 = .ok (.isub, 1) := by decide +kernel
theorem dX11_fits_145 : decode cX11_fits 145 = .ok (.aload_n 0, 1) := by decide +kernel
theorem dX11_fits_146 : decode cX11_fits 146 = .ok (.getfield 64, 3) := by decide +kernel
theorem dX11_fits_149 : decode cX11_fits 149 = .ok (.getfield 231, 3) := by decide +kernel
theorem dX11_fits_152 : decode cX11_fits 152 = .ok (.if_icmp .ge 19, 3) := by decide +kernel
theorem dX11_fits_155 : decode cX11_fits 155 = .ok (.aload_n 0, 1) := by decide +kernel
theorem dX11_fits_156 : decode cX11_fits 156 = .ok (.getfield 64, 3) := by decide +kernel
theorem dX11_fits_159 : decode cX11_fits 159 = .ok (.getfield 242, 3) := by decide +kernel
theorem dX11_fits_162 : decode cX11_fits 162 = .ok (.iload 5, 2) := by decide +kernel
theorem dX11_fits_164 : decode cX11_fits 164 = .ok (.bipush 10, 2) := by decide +kernel
theorem dX11_fits_166 : decode cX11_fits 166 = .ok (.isub, 1) := by decide +kernel
theorem dX11_fits_167 : decode cX11_fits 167 = .ok (.iaload, 1) := by decide +kernel
theorem dX11_fits_168 : decode cX11_fits 168 = .ok (.goto 5, 3) := by decide +kernel
theorem dX11_fits_171 : decode cX11_fits 171 = .ok (.bipush (-2), 2) := by decide +kernel
theorem dX11_fits_173 : decode cX11_fits 173 = .ok (.ireturn, 1) := by decide +kernel
theorem dX11_drawn_0 : decode cX11_drawn 0 = .ok (.aload_n 0, 1) := by decide +kernel
theorem dX11_drawn_1 : decode cX11_drawn 1 = .ok (.getfield 10, 3) := by decide +kernel
theorem dX11_drawn_4 : decode cX11_drawn 4 = .ok (.iconst 0, 1) := by decide +kernel
theorem dX11_drawn_5 : decode cX11_drawn 5 = .ok (.iload_n 1, 1) := by decide +kernel
theorem dX11_drawn_6 : decode cX11_drawn 6 = .ok (.invokevirtual 109, 3) := by decide +kernel
theorem dX11_drawn_9 : decode cX11_drawn 9 = .ok (.ifCond .eq 27, 3) := by decide +kernel
theorem dX11_drawn_12 : decode cX11_drawn 12 = .ok (.aload_n 0, 1) := by decide +kernel
theorem dX11_drawn_13 : decode cX11_drawn 13 = .ok (.getfield 10, 3) := by decide +kernel
theorem dX11_drawn_16 : decode cX11_drawn 16 = .ok (.iconst 1, 1) := by decide +kernel
theorem dX11_drawn_17 : decode cX11_drawn 17 = .ok (.iload_n 2, 1) := by decide +kernel
theorem dX11_drawn_18 : decode cX11_drawn 18 = .ok (.invokevirtual 109, 3) := by decide +kernel
theorem dX11_drawn_21 : decode cX11_drawn 21 = .ok (.ifCond .eq 15, 3) := by decide +kernel
theorem dX11_drawn_24 : decode cX11_drawn 24 = .ok (.iload 4, 2) := by decide +kernel
theorem dX11_drawn_26 : decode cX11_drawn 26 = .ok (.ifCond .lt 10, 3) := by decide +kernel
theorem dX11_drawn_29 : decode cX11_drawn 29 = .ok (.iload 4, 2) := by decide +kernel
theorem dX11_drawn_31 : decode cX11_drawn 31 = .ok (.bipush 60, 2) := by decide +kernel
theorem dX11_drawn_33 : decode cX11_drawn 33 = .ok (.if_icmp .le 6, 3) := by decide +kernel
theorem dX11_drawn_36 : decode cX11_drawn 36 = .ok (.bipush (-2), 2) := by decide +kernel
theorem dX11_drawn_38 : decode cX11_drawn 38 = .ok (.ireturn, 1) := by decide +kernel
theorem dX11_drawn_39 : decode cX11_drawn 39 = .ok (.aload_n 0, 1) := by decide +kernel
theorem dX11_drawn_40 : decode cX11_drawn 40 = .ok (.getfield 50, 3) := by decide +kernel
theorem dX11_drawn_43 : decode cX11_drawn 43 = .ok (.aload_n 0, 1) := by decide +kernel
theorem dX11_drawn_44 : decode cX11_drawn 44 = .ok (.getfield 10, 3) := by decide +kernel
theorem dX11_drawn_47 : decode cX11_drawn 47 = .ok (.getfield 39, 3) := by decide +kernel
theorem dX11_drawn_50 : decode cX11_drawn 50 = .ok (.iload_n 1, 1) := by decide +kernel
theorem dX11_drawn_51 : decode cX11_drawn 51 = .ok (.aaload, 1) := by decide +kernel
theorem dX11_drawn_52 : decode cX11_drawn 52 = .ok (.aload_n 0, 1) := by decide +kernel
theorem dX11_drawn_53 : decode cX11_drawn 53 = .ok (.getfield 10, 3) := by decide +kernel
theorem dX11_drawn_56 : decode cX11_drawn 56 = .ok (.getfield 43, 3) := by decide +kernel
theorem dX11_drawn_59 : decode cX11_drawn 59 = .ok (.iload_n 2, 1) := by decide +kernel
theorem dX11_drawn_60 : decode cX11_drawn 60 = .ok (.aaload, 1) := by decide +kernel
theorem dX11_drawn_61 : decode cX11_drawn 61 = .ok (.invokevirtual 245, 3) := by decide +kernel
theorem dX11_drawn_64 : decode cX11_drawn 64 = .ok (.aload_n 0, 1) := by decide +kernel
theorem dX11_drawn_65 : decode cX11_drawn 65 = .ok (.iload_n 3, 1) := by decide +kernel
theorem dX11_drawn_66 : decode cX11_drawn 66 = .ok (.putfield 248, 3) := by decide +kernel
theorem dX11_drawn_69 : decode cX11_drawn 69 = .ok (.iconst 0, 1) := by decide +kernel
theorem dX11_drawn_70 : decode cX11_drawn 70 = .ok (.istore 6, 2) := by decide +kernel
theorem dX11_drawn_72 : decode cX11_drawn 72 = .ok (.iload 6, 2) := by decide +kernel
theorem dX11_drawn_74 : decode cX11_drawn 74 = .ok (.iload 4, 2) := by decide +kernel
theorem dX11_drawn_76 : decode cX11_drawn 76 = .ok (.if_icmp .ge 25, 3) := by decide +kernel
theorem dX11_drawn_79 : decode cX11_drawn 79 = .ok (.aload_n 0, 1) := by decide +kernel
theorem dX11_drawn_80 : decode cX11_drawn 80 = .ok (.aload_n 0, 1) := by decide +kernel
theorem dX11_drawn_81 : decode cX11_drawn 81 = .ok (.getfield 10, 3) := by decide +kernel
theorem dX11_drawn_84 : decode cX11_drawn 84 = .ok (.getfield 43, 3) := by decide +kernel
theorem dX11_drawn_87 : decode cX11_drawn 87 = .ok (.iload_n 2, 1) := by decide +kernel
theorem dX11_drawn_88 : decode cX11_drawn 88 = .ok (.aaload, 1) := by decide +kernel
theorem dX11_drawn_89 : decode cX11_drawn 89 = .ok (.getfield 131, 3) := by decide +kernel
theorem dX11_drawn_92 : decode cX11_drawn 92 = .ok (.invokevirtual 251, 3) := by decide +kernel
theorem dX11_drawn_95 : decode cX11_drawn 95 = .ok (.iinc 6 1, 3) := by decide +kernel
theorem dX11_drawn_98 : decode cX11_drawn 98 = .ok (.goto (-26), 3) := by decide +kernel
theorem dX11_drawn_101 : decode cX11_drawn 101 = .ok (.aload_n 0, 1) := by decide +kernel
theorem dX11_drawn_102 : decode cX11_drawn 102 = .ok (.getfield 50, 3) := by decide +kernel
theorem dX11_drawn_105 : decode cX11_drawn 105 = .ok (.iload 5, 2) := by decide +kernel
theorem dX11_drawn_107 : decode cX11_drawn 107 = .ok (.invokevirtual 181, 3) := by decide +kernel
theorem dX11_drawn_110 : decode cX11_drawn 110 = .ok (.ireturn, 1) := by decide +kernel
theorem dX11_keys_0 : decode cX11_keys 0 = .ok (.aload_n 0, 1) := by decide +kernel
theorem dX11_keys_1 : decode cX11_keys 1 = .ok (.getfield 10, 3) := by decide +kernel
theorem dX11_keys_4 : decode cX11_keys 4 = .ok (.iconst 1, 1) := by decide +kernel
theorem dX11_keys_5 : decode cX11_keys 5 = .ok (.iload_n 1, 1) := by decide +kernel
theorem dX11_keys_6 : decode cX11_keys 6 = .ok (.invokevirtual 109, 3) := by decide +kernel
theorem dX11_keys_9 : decode cX11_keys 9 = .ok (.ifCond .eq 19, 3) := by decide +kernel
theorem dX11_keys_12 : decode cX11_keys 12 = .ok (.aload_n 0, 1) := by decide +kernel
theorem dX11_keys_13 : decode cX11_keys 13 = .ok (.getfield 10, 3) := by decide +kernel
theorem dX11_keys_16 : decode cX11_keys 16 = .ok (.getfield 43, 3) := by decide +kernel
theorem dX11_keys_19 : decode cX11_keys 19 = .ok (.iload_n 1, 1) := by decide +kernel
theorem dX11_keys_20 : decode cX11_keys 20 = .ok (.aaload, 1) := by decide +kernel
theorem dX11_keys_21 : decode cX11_keys 21 = .ok (.iload_n 2, 1) := by decide +kernel
theorem dX11_keys_22 : decode cX11_keys 22 = .ok (.invokevirtual 136, 3) := by decide +kernel
theorem dX11_keys_25 : decode cX11_keys 25 = .ok (.ifCond .ne 5, 3) := by decide +kernel
theorem dX11_keys_28 : decode cX11_keys 28 = .ok (.iconst (-1), 1) := by decide +kernel
theorem dX11_keys_29 : decode cX11_keys 29 = .ok (.ireturn, 1) := by decide +kernel
theorem dX11_keys_30 : decode cX11_keys 30 = .ok (.iload_n 3, 1) := by decide +kernel
theorem dX11_keys_31 : decode cX11_keys 31 = .ok (.ifCond .ne 17, 3) := by decide +kernel
theorem dX11_keys_34 : decode cX11_keys 34 = .ok (.aload_n 0, 1) := by decide +kernel
theorem dX11_keys_35 : decode cX11_keys 35 = .ok (.getfield 10, 3) := by decide +kernel
theorem dX11_keys_38 : decode cX11_keys 38 = .ok (.getfield 43, 3) := by decide +kernel
theorem dX11_keys_41 : decode cX11_keys 41 = .ok (.iload_n 1, 1) := by decide +kernel
theorem dX11_keys_42 : decode cX11_keys 42 = .ok (.aaload, 1) := by decide +kernel
theorem dX11_keys_43 : decode cX11_keys 43 = .ok (.iload_n 2, 1) := by decide +kernel
theorem dX11_keys_44 : decode cX11_keys 44 = .ok (.invokevirtual 254, 3) := by decide +kernel
theorem dX11_keys_47 : decode cX11_keys 47 = .ok (.ireturn, 1) := by decide +kernel
theorem dX11_keys_48 : decode cX11_keys 48 = .ok (.iload_n 3, 1) := by decide +kernel
theorem dX11_keys_49 : decode cX11_keys 49 = .ok (.iconst 1, 1) := by decide +kernel
theorem dX11_keys_50 : decode cX11_keys 50 = .ok (.if_icmp .ne 19, 3) := by decide +kernel
theorem dX11_keys_53 : decode cX11_keys 53 = .ok (.aload_n 0, 1) := by decide +kernel
theorem dX11_keys_54 : decode cX11_keys 54 = .ok (.getfield 10, 3) := by decide +kernel
theorem dX11_keys_57 : decode cX11_keys 57 = .ok (.getfield 43, 3) := by decide +kernel
theorem dX11_keys_60 : decode cX11_keys 60 = .ok (.iload_n 1, 1) := by decide +kernel
theorem dX11_keys_61 : decode cX11_keys 61 = .ok (.aaload, 1) := by decide +kernel
theorem dX11_keys_62 : decode cX11_keys 62 = .ok (.iload_n 2, 1) := by decide +kernel
theorem dX11_keys_63 : decode cX11_keys 63 = .ok (.invokevirtual 257, 3) := by decide +kernel
theorem dX11_keys_66 : decode cX11_keys 66 = .ok (.goto 4, 3) := by decide +kernel
theorem dX11_keys_69 : decode cX11_keys 69 = .ok (.iconst (-1), 1) := by decide +kernel
theorem dX11_keys_70 : decode cX11_keys 70 = .ok (.ireturn, 1) := by decide +kernel
theorem dX11_free_0 : decode cX11_free 0 = .ok (.aload_n 0, 1) := by decide +kernel
theorem dX11_free_1 : decode cX11_free 1 = .ok (.getfield 10, 3) := by decide +kernel
theorem dX11_free_4 : decode cX11_free 4 = .ok (.iconst 1, 1) := by decide +kernel
theorem dX11_free_5 : decode cX11_free 5 = .ok (.iload_n 1, 1) := by decide +kernel
theorem dX11_free_6 : decode cX11_free 6 = .ok (.invokevirtual 109, 3) := by decide +kernel
theorem dX11_free_9 : decode cX11_free 9 = .ok (.ifCond .ne 5, 3) := by decide +kernel
theorem dX11_free_12 : decode cX11_free 12 = .ok (.iconst (-1), 1) := by decide +kernel
theorem dX11_free_13 : decode cX11_free 13 = .ok (.ireturn, 1) := by decide +kernel
theorem dX11_free_14 : decode cX11_free 14 = .ok (.iload_n 2, 1) := by decide +kernel
theorem dX11_free_15 : decode cX11_free 15 = .ok (.ifCond .ne 16, 3) := by decide +kernel
theorem dX11_free_18 : decode cX11_free 18 = .ok (.aload_n 0, 1) := by decide +kernel
theorem dX11_free_19 : decode cX11_free 19 = .ok (.getfield 10, 3) := by decide +kernel
theorem dX11_free_22 : decode cX11_free 22 = .ok (.getfield 43, 3) := by decide +kernel
theorem dX11_free_25 : decode cX11_free 25 = .ok (.iload_n 1, 1) := by decide +kernel
theorem dX11_free_26 : decode cX11_free 26 = .ok (.aaload, 1) := by decide +kernel
theorem dX11_free_27 : decode cX11_free 27 = .ok (.invokevirtual 260, 3) := by decide +kernel
theorem dX11_free_30 : decode cX11_free 30 = .ok (.ireturn, 1) := by decide +kernel
theorem dX11_free_31 : decode cX11_free 31 = .ok (.iload_n 2, 1) := by decide +kernel
theorem dX11_free_32 : decode cX11_free 32 = .ok (.iconst 1, 1) := by decide +kernel
theorem dX11_free_33 : decode cX11_free 33 = .ok (.if_icmp .ne 18, 3) := by decide +kernel
theorem dX11_free_36 : decode cX11_free 36 = .ok (.aload_n 0, 1) := by decide +kernel
theorem dX11_free_37 : decode cX11_free 37 = .ok (.getfield 10, 3) := by decide +kernel
theorem dX11_free_40 : decode cX11_free 40 = .ok (.getfield 43, 3) := by decide +kernel
theorem dX11_free_43 : decode cX11_free 43 = .ok (.iload_n 1, 1) := by decide +kernel
theorem dX11_free_44 : decode cX11_free 44 = .ok (.aaload, 1) := by decide +kernel
theorem dX11_free_45 : decode cX11_free 45 = .ok (.invokevirtual 263, 3) := by decide +kernel
theorem dX11_free_48 : decode cX11_free 48 = .ok (.goto 4, 3) := by decide +kernel
theorem dX11_free_51 : decode cX11_free 51 = .ok (.iconst (-1), 1) := by decide +kernel
theorem dX11_free_52 : decode cX11_free 52 = .ok (.ireturn, 1) := by decide +kernel
theorem dX11_alone_0 : decode cX11_alone 0 = .ok (.aload_n 0, 1) := by decide +kernel
theorem dX11_alone_1 : decode cX11_alone 1 = .ok (.getfield 10, 3) := by decide +kernel
theorem dX11_alone_4 : decode cX11_alone 4 = .ok (.iconst 0, 1) := by decide +kernel
theorem dX11_alone_5 : decode cX11_alone 5 = .ok (.iload_n 1, 1) := by decide +kernel
theorem dX11_alone_6 : decode cX11_alone 6 = .ok (.invokevirtual 109, 3) := by decide +kernel
theorem dX11_alone_9 : decode cX11_alone 9 = .ok (.ifCond .eq 31, 3) := by decide +kernel
theorem dX11_alone_12 : decode cX11_alone 12 = .ok (.aload_n 0, 1) := by decide +kernel
theorem dX11_alone_13 : decode cX11_alone 13 = .ok (.getfield 10, 3) := by decide +kernel
theorem dX11_alone_16 : decode cX11_alone 16 = .ok (.iconst 1, 1) := by decide +kernel
theorem dX11_alone_17 : decode cX11_alone 17 = .ok (.iload_n 2, 1) := by decide +kernel
theorem dX11_alone_18 : decode cX11_alone 18 = .ok (.invokevirtual 109, 3) := by decide +kernel
theorem dX11_alone_21 : decode cX11_alone 21 = .ok (.ifCond .eq 19, 3) := by decide +kernel
theorem dX11_alone_24 : decode cX11_alone 24 = .ok (.aload_n 0, 1) := by decide +kernel
theorem dX11_alone_25 : decode cX11_alone 25 = .ok (.getfield 10, 3) := by decide +kernel
theorem dX11_alone_28 : decode cX11_alone 28 = .ok (.getfield 43, 3) := by decide +kernel
theorem dX11_alone_31 : decode cX11_alone 31 = .ok (.iload_n 2, 1) := by decide +kernel
theorem dX11_alone_32 : decode cX11_alone 32 = .ok (.aaload, 1) := by decide +kernel
theorem dX11_alone_33 : decode cX11_alone 33 = .ok (.iload_n 3, 1) := by decide +kernel
theorem dX11_alone_34 : decode cX11_alone 34 = .ok (.invokevirtual 136, 3) := by decide +kernel
theorem dX11_alone_37 : decode cX11_alone 37 = .ok (.ifCond .ne 6, 3) := by decide +kernel
theorem dX11_alone_40 : decode cX11_alone 40 = .ok (.bipush (-2), 2) := by decide +kernel
theorem dX11_alone_42 : decode cX11_alone 42 = .ok (.ireturn, 1) := by decide +kernel
theorem dX11_alone_43 : decode cX11_alone 43 = .ok (.aload_n 0, 1) := by decide +kernel
theorem dX11_alone_44 : decode cX11_alone 44 = .ok (.getfield 10, 3) := by decide +kernel
theorem dX11_alone_47 : decode cX11_alone 47 = .ok (.getfield 39, 3) := by decide +kernel
theorem dX11_alone_50 : decode cX11_alone 50 = .ok (.iload_n 1, 1) := by decide +kernel
theorem dX11_alone_51 : decode cX11_alone 51 = .ok (.aaload, 1) := by decide +kernel
theorem dX11_alone_52 : decode cX11_alone 52 = .ok (.getfield 121, 3) := by decide +kernel
theorem dX11_alone_55 : decode cX11_alone 55 = .ok (.aload_n 0, 1) := by decide +kernel
theorem dX11_alone_56 : decode cX11_alone 56 = .ok (.getfield 72, 3) := by decide +kernel
theorem dX11_alone_59 : decode cX11_alone 59 = .ok (.invokestatic 266, 3) := by decide +kernel
theorem dX11_alone_62 : decode cX11_alone 62 = .ok (.aload_n 0, 1) := by decide +kernel
theorem dX11_alone_63 : decode cX11_alone 63 = .ok (.getfield 10, 3) := by decide +kernel
theorem dX11_alone_66 : decode cX11_alone 66 = .ok (.getfield 43, 3) := by decide +kernel
theorem dX11_alone_69 : decode cX11_alone 69 = .ok (.iload_n 2, 1) := by decide +kernel
theorem dX11_alone_70 : decode cX11_alone 70 = .ok (.aaload, 1) := by decide +kernel
theorem dX11_alone_71 : decode cX11_alone 71 = .ok (.iload_n 3, 1) := by decide +kernel
theorem dX11_alone_72 : decode cX11_alone 72 = .ok (.aload_n 0, 1) := by decide +kernel
theorem dX11_alone_73 : decode cX11_alone 73 = .ok (.getfield 72, 3) := by decide +kernel
theorem dX11_alone_76 : decode cX11_alone 76 = .ok (.invokevirtual 270, 3) := by decide +kernel
theorem dX11_alone_79 : decode cX11_alone 79 = .ok (.istore 5, 2) := by decide +kernel
theorem dX11_alone_81 : decode cX11_alone 81 = .ok (.iload 4, 2) := by decide +kernel
theorem dX11_alone_83 : decode cX11_alone 83 = .ok (.ifCond .ne 6, 3) := by decide +kernel
theorem dX11_alone_86 : decode cX11_alone 86 = .ok (.iload 5, 2) := by decide +kernel
theorem dX11_alone_88 : decode cX11_alone 88 = .ok (.ireturn, 1) := by decide +kernel
theorem dX11_alone_89 : decode cX11_alone 89 = .ok (.iload 4, 2) := by decide +kernel
theorem dX11_alone_91 : decode cX11_alone 91 = .ok (.bipush 10, 2) := by decide +kernel
theorem dX11_alone_93 : decode cX11_alone 93 = .ok (.invokestatic 128, 3) := by decide +kernel
theorem dX11_alone_96 : decode cX11_alone 96 = .ok (.ifCond .eq 16, 3) := by decide +kernel
theorem dX11_alone_99 : decode cX11_alone 99 = .ok (.aload_n 0, 1) := by decide +kernel
theorem dX11_alone_100 : decode cX11_alone 100 = .ok (.getfield 72, 3) := by decide +kernel
theorem dX11_alone_103 : decode cX11_alone 103 = .ok (.iload 4, 2) := by decide +kernel
theorem dX11_alone_105 : decode cX11_alone 105 = .ok (.bipush 10, 2) := by decide +kernel
theorem dX11_alone_107 : decode cX11_alone 107 = .ok (.isub, 1) := by decide +kernel
theorem dX11_alone_108 : decode cX11_alone 108 = .ok (.iaload, 1) := by decide +kernel
theorem dX11_alone_109 : decode cX11_alone 109 = .ok (.goto 5, 3) := by decide +kernel
theorem dX11_alone_112 : decode cX11_alone 112 = .ok (.bipush (-2), 2) := by decide +kernel
theorem dX11_alone_114 : decode cX11_alone 114 = .ok (.ireturn, 1) := by decide +kernel
theorem dX11_swaps_0 : decode cX11_swaps 0 = .ok (.aload_n 0, 1) := by decide +kernel
theorem dX11_swaps_1 : decode cX11_swaps 1 = .ok (.getfield 10, 3) := by decide +kernel
theorem dX11_swaps_4 : decode cX11_swaps 4 = .ok (.iconst 0, 1) := by decide +kernel
theorem dX11_swaps_5 : decode cX11_swaps 5 = .ok (.iload_n 1, 1) := by decide +kernel
theorem dX11_swaps_6 : decode cX11_swaps 6 = .ok (.invokevirtual 109, 3) := by decide +kernel
theorem dX11_swaps_9 : decode cX11_swaps 9 = .ok (.ifCond .eq 15, 3) := by decide +kernel
theorem dX11_swaps_12 : decode cX11_swaps 12 = .ok (.aload_n 0, 1) := by decide +kernel
theorem dX11_swaps_13 : decode cX11_swaps 13 = .ok (.getfield 10, 3) := by decide +kernel
theorem dX11_swaps_16 : decode cX11_swaps 16 = .ok (.iconst 1, 1) := by decide +kernel
theorem dX11_swaps_17 : decode cX11_swaps 17 = .ok (.iload_n 2, 1) := by decide +kernel
theorem dX11_swaps_18 : decode cX11_swaps 18 = .ok (.invokevirtual 109, 3) := by decide +kernel
theorem dX11_swaps_21 : decode cX11_swaps 21 = .ok (.ifCond .ne 5, 3) := by decide +kernel
theorem dX11_swaps_24 : decode cX11_swaps 24 = .ok (.iconst (-1), 1) := by decide +kernel
theorem dX11_swaps_25 : decode cX11_swaps 25 = .ok (.ireturn, 1) := by decide +kernel
theorem dX11_swaps_26 : decode cX11_swaps 26 = .ok (.aload_n 0, 1) := by decide +kernel
theorem dX11_swaps_27 : decode cX11_swaps 27 = .ok (.getfield 10, 3) := by decide +kernel
theorem dX11_swaps_30 : decode cX11_swaps 30 = .ok (.getfield 43, 3) := by decide +kernel
theorem dX11_swaps_33 : decode cX11_swaps 33 = .ok (.iload_n 2, 1) := by decide +kernel
theorem dX11_swaps_34 : decode cX11_swaps 34 = .ok (.aaload, 1) := by decide +kernel
theorem dX11_swaps_35 : decode cX11_swaps 35 = .ok (.astore_n 3, 1) := by decide +kernel
theorem dX11_swaps_36 : decode cX11_swaps 36 = .ok (.iconst 0, 1) := by decide +kernel
theorem dX11_swaps_37 : decode cX11_swaps 37 = .ok (.istore 4, 2) := by decide +kernel
theorem dX11_swaps_39 : decode cX11_swaps 39 = .ok (.iconst 0, 1) := by decide +kernel
theorem dX11_swaps_40 : decode cX11_swaps 40 = .ok (.istore 5, 2) := by decide +kernel
theorem dX11_swaps_42 : decode cX11_swaps 42 = .ok (.iload 5, 2) := by decide +kernel
theorem dX11_swaps_44 : decode cX11_swaps 44 = .ok (.aload_n 3, 1) := by decide +kernel
theorem dX11_swaps_45 : decode cX11_swaps 45 = .ok (.getfield 131, 3) := by decide +kernel
theorem dX11_swaps_48 : decode cX11_swaps 48 = .ok (.if_icmp .ge 89, 3) := by decide +kernel
theorem dX11_swaps_51 : decode cX11_swaps 51 = .ok (.iload 5, 2) := by decide +kernel
theorem dX11_swaps_53 : decode cX11_swaps 53 = .ok (.iconst 1, 1) := by decide +kernel
theorem dX11_swaps_54 : decode cX11_swaps 54 = .ok (.iadd, 1) := by decide +kernel
theorem dX11_swaps_55 : decode cX11_swaps 55 = .ok (.istore 6, 2) := by decide +kernel
theorem dX11_swaps_57 : decode cX11_swaps 57 = .ok (.iload 6, 2) := by decide +kernel
theorem dX11_swaps_59 : decode cX11_swaps 59 = .ok (.aload_n 3, 1) := by decide +kernel
theorem dX11_swaps_60 : decode cX11_swaps 60 = .ok (.getfield 131, 3) := by decide +kernel
theorem dX11_swaps_63 : decode cX11_swaps 63 = .ok (.if_icmp .ge 68, 3) := by decide +kernel
theorem dX11_swaps_66 : decode cX11_swaps 66 = .ok (.aload_n 0, 1) := by decide +kernel
theorem dX11_swaps_67 : decode cX11_swaps 67 = .ok (.getfield 10, 3) := by decide +kernel
theorem dX11_swaps_70 : decode cX11_swaps 70 = .ok (.getfield 39, 3) := by decide +kernel
theorem dX11_swaps_73 : decode cX11_swaps 73 = .ok (.iload_n 1, 1) := by decide +kernel
theorem dX11_swaps_74 : decode cX11_swaps 74 = .ok (.aaload, 1) := by decide +kernel
theorem dX11_swaps_75 : decode cX11_swaps 75 = .ok (.aload_n 3, 1) := by decide +kernel
theorem dX11_swaps_76 : decode cX11_swaps 76 = .ok (.iload 5, 2) := by decide +kernel
theorem dX11_swaps_78 : decode cX11_swaps 78 = .ok (.iload 6, 2) := by decide +kernel
theorem dX11_swaps_80 : decode cX11_swaps 80 = .ok (.aload_n 0, 1) := by decide +kernel
theorem dX11_swaps_81 : decode cX11_swaps 81 = .ok (.getfield 72, 3) := by decide +kernel
theorem dX11_swaps_84 : decode cX11_swaps 84 = .ok (.invokestatic 274, 3) := by decide +kernel
theorem dX11_swaps_87 : decode cX11_swaps 87 = .ok (.aload_n 0, 1) := by decide +kernel
theorem dX11_swaps_88 : decode cX11_swaps 88 = .ok (.getfield 10, 3) := by decide +kernel
theorem dX11_swaps_91 : decode cX11_swaps 91 = .ok (.getfield 39, 3) := by decide +kernel
theorem dX11_swaps_94 : decode cX11_swaps 94 = .ok (.iload_n 1, 1) := by decide +kernel
theorem dX11_swaps_95 : decode cX11_swaps 95 = .ok (.aaload, 1) := by decide +kernel
theorem dX11_swaps_96 : decode cX11_swaps 96 = .ok (.aload_n 3, 1) := by decide +kernel
theorem dX11_swaps_97 : decode cX11_swaps 97 = .ok (.iload 6, 2) := by decide +kernel
theorem dX11_swaps_99 : decode cX11_swaps 99 = .ok (.iload 5, 2) := by decide +kernel
theorem dX11_swaps_101 : decode cX11_swaps 101 = .ok (.aload_n 0, 1) := by decide +kernel
theorem dX11_swaps_102 : decode cX11_swaps 102 = .ok (.getfield 75, 3) := by decide +kernel
theorem dX11_swaps_105 : decode cX11_swaps 105 = .ok (.invokestatic 274, 3) := by decide +kernel
theorem dX11_swaps_108 : decode cX11_swaps 108 = .ok (.aload_n 0, 1) := by decide +kernel
theorem dX11_swaps_109 : decode cX11_swaps 109 = .ok (.getfield 72, 3) := by decide +kernel
theorem dX11_swaps_112 : decode cX11_swaps 112 = .ok (.aload_n 0, 1) := by decide +kernel
theorem dX11_swaps_113 : decode cX11_swaps 113 = .ok (.getfield 75, 3) := by decide +kernel
theorem dX11_swaps_116 : decode cX11_swaps 116 = .ok (.invokestatic 278, 3) := by decide +kernel
theorem dX11_swaps_119 : decode cX11_swaps 119 = .ok (.ifCond .eq 6, 3) := by decide +kernel
theorem dX11_swaps_122 : decode cX11_swaps 122 = .ok (.iinc 4 1, 3) := by decide +kernel
theorem dX11_swaps_125 : decode cX11_swaps 125 = .ok (.iinc 6 1, 3) := by decide +kernel
theorem dX11_swaps_128 : decode cX11_swaps 128 = .ok (.goto (-71), 3) := by decide +kernel
theorem dX11_swaps_131 : decode cX11_swaps 131 = .ok (.iinc 5 1, 3) := by decide +kernel
theorem dX11_swaps_134 : decode cX11_swaps 134 = .ok (.goto (-92), 3) := by decide +kernel
theorem dX11_swaps_137 : decode cX11_swaps 137 = .ok (.iload 4, 2) := by decide +kernel
theorem dX11_swaps_139 : decode cX11_swaps 139 = .ok (.ireturn, 1) := by decide +kernel
theorem dX11_weave_0 : decode cX11_weave 0 = .ok (.aload_n 0, 1) := by decide +kernel
theorem dX11_weave_1 : decode cX11_weave 1 = .ok (.getfield 10, 3) := by decide +kernel
theorem dX11_weave_4 : decode cX11_weave 4 = .ok (.iconst 0, 1) := by decide +kernel
theorem dX11_weave_5 : decode cX11_weave 5 = .ok (.iload_n 1, 1) := by decide +kernel
theorem dX11_weave_6 : decode cX11_weave 6 = .ok (.invokevirtual 109, 3) := by decide +kernel
theorem dX11_weave_9 : decode cX11_weave 9 = .ok (.ifCond .eq 15, 3) := by decide +kernel
theorem dX11_weave_12 : decode cX11_weave 12 = .ok (.aload_n 0, 1) := by decide +kernel
theorem dX11_weave_13 : decode cX11_weave 13 = .ok (.getfield 10, 3) := by decide +kernel
theorem dX11_weave_16 : decode cX11_weave 16 = .ok (.iconst 1, 1) := by decide +kernel
theorem dX11_weave_17 : decode cX11_weave 17 = .ok (.iload_n 2, 1) := by decide +kernel
theorem dX11_weave_18 : decode cX11_weave 18 = .ok (.invokevirtual 109, 3) := by decide +kernel
theorem dX11_weave_21 : decode cX11_weave 21 = .ok (.ifCond .ne 5, 3) := by decide +kernel
theorem dX11_weave_24 : decode cX11_weave 24 = .ok (.iconst (-1), 1) := by decide +kernel
theorem dX11_weave_25 : decode cX11_weave 25 = .ok (.ireturn, 1) := by decide +kernel
theorem dX11_weave_26 : decode cX11_weave 26 = .ok (.aload_n 0, 1) := by decide +kernel
theorem dX11_weave_27 : decode cX11_weave 27 = .ok (.getfield 10, 3) := by decide +kernel
theorem dX11_weave_30 : decode cX11_weave 30 = .ok (.getfield 43, 3) := by decide +kernel
theorem dX11_weave_33 : decode cX11_weave 33 = .ok (.iload_n 2, 1) := by decide +kernel
theorem dX11_weave_34 : decode cX11_weave 34 = .ok (.aaload, 1) := by decide +kernel
theorem dX11_weave_35 : decode cX11_weave 35 = .ok (.astore 6, 2) := by decide +kernel
theorem dX11_weave_37 : decode cX11_weave 37 = .ok (.aload 6, 2) := by decide +kernel
theorem dX11_weave_39 : decode cX11_weave 39 = .ok (.iload_n 3, 1) := by decide +kernel
theorem dX11_weave_40 : decode cX11_weave 40 = .ok (.invokevirtual 136, 3) := by decide +kernel
theorem dX11_weave_43 : decode cX11_weave 43 = .ok (.ifCond .eq 24, 3) := by decide +kernel
theorem dX11_weave_46 : decode cX11_weave 46 = .ok (.aload 6, 2) := by decide +kernel
theorem dX11_weave_48 : decode cX11_weave 48 = .ok (.iload 4, 2) := by decide +kernel
theorem dX11_weave_50 : decode cX11_weave 50 = .ok (.invokevirtual 136, 3) := by decide +kernel
theorem dX11_weave_53 : decode cX11_weave 53 = .ok (.ifCond .eq 14, 3) := by decide +kernel
theorem dX11_weave_56 : decode cX11_weave 56 = .ok (.iload 5, 2) := by decide +kernel
theorem dX11_weave_58 : decode cX11_weave 58 = .ok (.ifCond .lt 9, 3) := by decide +kernel
theorem dX11_weave_61 : decode cX11_weave 61 = .ok (.iload 5, 2) := by decide +kernel
theorem dX11_weave_63 : decode cX11_weave 63 = .ok (.iconst 5, 1) := by decide +kernel
theorem dX11_weave_64 : decode cX11_weave 64 = .ok (.if_icmp .lt 5, 3) := by decide +kernel
theorem dX11_weave_67 : decode cX11_weave 67 = .ok (.iconst (-1), 1) := by decide +kernel
theorem dX11_weave_68 : decode cX11_weave 68 = .ok (.ireturn, 1) := by decide +kernel
theorem dX11_weave_69 : decode cX11_weave 69 = .ok (.aload_n 0, 1) := by decide +kernel
theorem dX11_weave_70 : decode cX11_weave 70 = .ok (.aload_n 0, 1) := by decide +kernel
theorem dX11_weave_71 : decode cX11_weave 71 = .ok (.getfield 10, 3) := by decide +kernel
theorem dX11_weave_74 : decode cX11_weave 74 = .ok (.getfield 39, 3) := by decide +kernel
theorem dX11_weave_77 : decode cX11_weave 77 = .ok (.iload_n 1, 1) := by decide +kernel
theorem dX11_weave_78 : decode cX11_weave 78 = .ok (.aaload, 1) := by decide +kernel
theorem dX11_weave_79 : decode cX11_weave 79 = .ok (.aload 6, 2) := by decide +kernel
theorem dX11_weave_81 : decode cX11_weave 81 = .ok (.iload_n 3, 1) := by decide +kernel
theorem dX11_weave_82 : decode cX11_weave 82 = .ok (.iload 4, 2) := by decide +kernel
theorem dX11_weave_84 : decode cX11_weave 84 = .ok (.invokevirtual 282, 3) := by decide +kernel
theorem dX11_weave_87 : decode cX11_weave 87 = .ok (.aload_n 0, 1) := by decide +kernel
theorem dX11_weave_88 : decode cX11_weave 88 = .ok (.getfield 68, 3) := by decide +kernel
theorem dX11_weave_91 : decode cX11_weave 91 = .ok (.iload 5, 2) := by decide +kernel
theorem dX11_weave_93 : decode cX11_weave 93 = .ok (.iaload, 1) := by decide +kernel
theorem dX11_weave_94 : decode cX11_weave 94 = .ok (.ireturn, 1) := by decide +kernel
theorem dX11_risk_0 : decode cX11_risk 0 = .ok (.aload_n 0, 1) := by decide +kernel
theorem dX11_risk_1 : decode cX11_risk 1 = .ok (.getfield 10, 3) := by decide +kernel
theorem dX11_risk_4 : decode cX11_risk 4 = .ok (.iconst 0, 1) := by decide +kernel
theorem dX11_risk_5 : decode cX11_risk 5 = .ok (.iload_n 1, 1) := by decide +kernel
theorem dX11_risk_6 : decode cX11_risk 6 = .ok (.invokevirtual 109, 3) := by decide +kernel
theorem dX11_risk_9 : decode cX11_risk 9 = .ok (.ifCond .eq 31, 3) := by decide +kernel
theorem dX11_risk_12 : decode cX11_risk 12 = .ok (.aload_n 0, 1) := by decide +kernel
theorem dX11_risk_13 : decode cX11_risk 13 = .ok (.getfield 10, 3) := by decide +kernel
theorem dX11_risk_16 : decode cX11_risk 16 = .ok (.iconst 1, 1) := by decide +kernel
theorem dX11_risk_17 : decode cX11_risk 17 = .ok (.iload_n 2, 1) := by decide +kernel
theorem dX11_risk_18 : decode cX11_risk 18 = .ok (.invokevirtual 109, 3) := by decide +kernel
theorem dX11_risk_21 : decode cX11_risk 21 = .ok (.ifCond .eq 19, 3) := by decide +kernel
theorem dX11_risk_24 : decode cX11_risk 24 = .ok (.aload_n 0, 1) := by decide +kernel
theorem dX11_risk_25 : decode cX11_risk 25 = .ok (.getfield 10, 3) := by decide +kernel
theorem dX11_risk_28 : decode cX11_risk 28 = .ok (.getfield 43, 3) := by decide +kernel
theorem dX11_risk_31 : decode cX11_risk 31 = .ok (.iload_n 2, 1) := by decide +kernel
theorem dX11_risk_32 : decode cX11_risk 32 = .ok (.aaload, 1) := by decide +kernel
theorem dX11_risk_33 : decode cX11_risk 33 = .ok (.iload_n 3, 1) := by decide +kernel
theorem dX11_risk_34 : decode cX11_risk 34 = .ok (.invokevirtual 136, 3) := by decide +kernel
theorem dX11_risk_37 : decode cX11_risk 37 = .ok (.ifCond .ne 5, 3) := by decide +kernel
theorem dX11_risk_40 : decode cX11_risk 40 = .ok (.iconst (-1), 1) := by decide +kernel
theorem dX11_risk_41 : decode cX11_risk 41 = .ok (.ireturn, 1) := by decide +kernel
theorem dX11_risk_42 : decode cX11_risk 42 = .ok (.aload_n 0, 1) := by decide +kernel
theorem dX11_risk_43 : decode cX11_risk 43 = .ok (.getfield 10, 3) := by decide +kernel
theorem dX11_risk_46 : decode cX11_risk 46 = .ok (.getfield 43, 3) := by decide +kernel
theorem dX11_risk_49 : decode cX11_risk 49 = .ok (.iload_n 2, 1) := by decide +kernel
theorem dX11_risk_50 : decode cX11_risk 50 = .ok (.aaload, 1) := by decide +kernel
theorem dX11_risk_51 : decode cX11_risk 51 = .ok (.astore 4, 2) := by decide +kernel
theorem dX11_risk_53 : decode cX11_risk 53 = .ok (.iconst 0, 1) := by decide +kernel
theorem dX11_risk_54 : decode cX11_risk 54 = .ok (.istore 5, 2) := by decide +kernel
theorem dX11_risk_56 : decode cX11_risk 56 = .ok (.iconst 0, 1) := by decide +kernel
theorem dX11_risk_57 : decode cX11_risk 57 = .ok (.istore 6, 2) := by decide +kernel
theorem dX11_risk_59 : decode cX11_risk 59 = .ok (.iload 6, 2) := by decide +kernel
theorem dX11_risk_61 : decode cX11_risk 61 = .ok (.aload 4, 2) := by decide +kernel
theorem dX11_risk_63 : decode cX11_risk 63 = .ok (.getfield 131, 3) := by decide +kernel
theorem dX11_risk_66 : decode cX11_risk 66 = .ok (.if_icmp .ge 45, 3) := by decide +kernel
theorem dX11_risk_69 : decode cX11_risk 69 = .ok (.aload_n 0, 1) := by decide +kernel
theorem dX11_risk_70 : decode cX11_risk 70 = .ok (.aload_n 0, 1) := by decide +kernel
theorem dX11_risk_71 : decode cX11_risk 71 = .ok (.getfield 10, 3) := by decide +kernel
theorem dX11_risk_74 : decode cX11_risk 74 = .ok (.getfield 39, 3) := by decide +kernel
theorem dX11_risk_77 : decode cX11_risk 77 = .ok (.iload_n 1, 1) := by decide +kernel
theorem dX11_risk_78 : decode cX11_risk 78 = .ok (.aaload, 1) := by decide +kernel
theorem dX11_risk_79 : decode cX11_risk 79 = .ok (.aload 4, 2) := by decide +kernel
theorem dX11_risk_81 : decode cX11_risk 81 = .ok (.iload_n 3, 1) := by decide +kernel
theorem dX11_risk_82 : decode cX11_risk 82 = .ok (.iload 6, 2) := by decide +kernel
theorem dX11_risk_84 : decode cX11_risk 84 = .ok (.invokevirtual 282, 3) := by decide +kernel
theorem dX11_risk_87 : decode cX11_risk 87 = .ok (.aload_n 0, 1) := by decide +kernel
theorem dX11_risk_88 : decode cX11_risk 88 = .ok (.getfield 68, 3) := by decide +kernel
theorem dX11_risk_91 : decode cX11_risk 91 = .ok (.iconst 2, 1) := by decide +kernel
theorem dX11_risk_92 : decode cX11_risk 92 = .ok (.iaload, 1) := by decide +kernel
theorem dX11_risk_93 : decode cX11_risk 93 = .ok (.ifCond .le 12, 3) := by decide +kernel
theorem dX11_risk_96 : decode cX11_risk 96 = .ok (.iload 5, 2) := by decide +kernel
theorem dX11_risk_98 : decode cX11_risk 98 = .ok (.iconst 1, 1) := by decide +kernel
theorem dX11_risk_99 : decode cX11_risk 99 = .ok (.iload 6, 2) := by decide +kernel
theorem dX11_risk_101 : decode cX11_risk 101 = .ok (.ishl, 1) := by decide +kernel
theorem dX11_risk_102 : decode cX11_risk 102 = .ok (.ior, 1) := by decide +kernel
theorem dX11_risk_103 : decode cX11_risk 103 = .ok (.istore 5, 2) := by decide +kernel
theorem dX11_risk_105 : decode cX11_risk 105 = .ok (.iinc 6 1, 3) := by decide +kernel
theorem dX11_risk_108 : decode cX11_risk 108 = .ok (.goto (-49), 3) := by decide +kernel
theorem dX11_risk_111 : decode cX11_risk 111 = .ok (.iload 5, 2) := by decide +kernel
theorem dX11_risk_113 : decode cX11_risk 113 = .ok (.ireturn, 1) := by decide +kernel
theorem dX11_after_0 : decode cX11_after 0 = .ok (.aload_n 0, 1) := by decide +kernel
theorem dX11_after_1 : decode cX11_after 1 = .ok (.iload_n 1, 1) := by decide +kernel
theorem dX11_after_2 : decode cX11_after 2 = .ok (.iload_n 2, 1) := by decide +kernel
theorem dX11_after_3 : decode cX11_after 3 = .ok (.iload_n 3, 1) := by decide +kernel
theorem dX11_after_4 : decode cX11_after 4 = .ok (.bipush 40, 2) := by decide +kernel
theorem dX11_after_6 : decode cX11_after 6 = .ok (.invokevirtual 166, 3) := by decide +kernel
theorem dX11_after_9 : decode cX11_after 9 = .ok (.ifCond .ne 6, 3) := by decide +kernel
theorem dX11_after_12 : decode cX11_after 12 = .ok (.bipush (-2), 2) := by decide +kernel
theorem dX11_after_14 : decode cX11_after 14 = .ok (.ireturn, 1) := by decide +kernel
theorem dX11_after_15 : decode cX11_after 15 = .ok (.iload 4, 2) := by decide +kernel
theorem dX11_after_17 : decode cX11_after 17 = .ok (.tableswitch 87 0 5 #[39, 47, 55, 63, 71, 79], 39) := by decide +kernel
theorem dX11_after_56 : decode cX11_after 56 = .ok (.aload_n 0, 1) := by decide +kernel
theorem dX11_after_57 : decode cX11_after 57 = .ok (.getfield 50, 3) := by decide +kernel
theorem dX11_after_60 : decode cX11_after 60 = .ok (.invokevirtual 286, 3) := by decide +kernel
theorem dX11_after_63 : decode cX11_after 63 = .ok (.ireturn, 1) := by decide +kernel
theorem dX11_after_64 : decode cX11_after 64 = .ok (.aload_n 0, 1) := by decide +kernel
theorem dX11_after_65 : decode cX11_after 65 = .ok (.getfield 50, 3) := by decide +kernel
theorem dX11_after_68 : decode cX11_after 68 = .ok (.invokevirtual 289, 3) := by decide +kernel
theorem dX11_after_71 : decode cX11_after 71 = .ok (.ireturn, 1) := by decide +kernel
theorem dX11_after_72 : decode cX11_after 72 = .ok (.aload_n 0, 1) := by decide +kernel
theorem dX11_after_73 : decode cX11_after 73 = .ok (.getfield 50, 3) := by decide +kernel
theorem dX11_after_76 : decode cX11_after 76 = .ok (.getfield 292, 3) := by decide +kernel
theorem dX11_after_79 : decode cX11_after 79 = .ok (.ireturn, 1) := by decide +kernel
theorem dX11_after_80 : decode cX11_after 80 = .ok (.aload_n 0, 1) := by decide +kernel
theorem dX11_after_81 : decode cX11_after 81 = .ok (.getfield 50, 3) := by decide +kernel
theorem dX11_after_84 : decode cX11_after 84 = .ok (.getfield 295, 3) := by decide +kernel
theorem dX11_after_87 : decode cX11_after 87 = .ok (.ireturn, 1) := by decide +kernel
theorem dX11_after_88 : decode cX11_after 88 = .ok (.aload_n 0, 1) := by decide +kernel
theorem dX11_after_89 : decode cX11_after 89 = .ok (.getfield 50, 3) := by decide +kernel
theorem dX11_after_92 : decode cX11_after 92 = .ok (.getfield 298, 3) := by decide +kernel
theorem dX11_after_95 : decode cX11_after 95 = .ok (.ireturn, 1) := by decide +kernel
theorem dX11_after_96 : decode cX11_after 96 = .ok (.aload_n 0, 1) := by decide +kernel
theorem dX11_after_97 : decode cX11_after 97 = .ok (.getfield 50, 3) := by decide +kernel
theorem dX11_after_100 : decode cX11_after 100 = .ok (.invokevirtual 301, 3) := by decide +kernel
theorem dX11_after_103 : decode cX11_after 103 = .ok (.ireturn, 1) := by decide +kernel
theorem dX11_after_104 : decode cX11_after 104 = .ok (.bipush (-2), 2) := by decide +kernel
theorem dX11_after_106 : decode cX11_after 106 = .ok (.ireturn, 1) := by decide +kernel
theorem dX11_count_0 : decode cX11_count 0 = .ok (.iload_n 1, 1) := by decide +kernel
theorem dX11_count_1 : decode cX11_count 1 = .ok (.ifCond .lt 20, 3) := by decide +kernel
theorem dX11_count_4 : decode cX11_count 4 = .ok (.iload_n 1, 1) := by decide +kernel
theorem dX11_count_5 : decode cX11_count 5 = .ok (.iconst 4, 1) := by decide +kernel
theorem dX11_count_6 : decode cX11_count 6 = .ok (.if_icmp .ge 15, 3) := by decide +kernel
theorem dX11_count_9 : decode cX11_count 9 = .ok (.aload_n 0, 1) := by decide +kernel
theorem dX11_count_10 : decode cX11_count 10 = .ok (.getfield 10, 3) := by decide +kernel
theorem dX11_count_13 : decode cX11_count 13 = .ok (.getfield 106, 3) := by decide +kernel
theorem dX11_count_16 : decode cX11_count 16 = .ok (.iload_n 1, 1) := by decide +kernel
theorem dX11_count_17 : decode cX11_count 17 = .ok (.iaload, 1) := by decide +kernel
theorem dX11_count_18 : decode cX11_count 18 = .ok (.goto 5, 3) := by decide +kernel
theorem dX11_count_21 : decode cX11_count 21 = .ok (.bipush (-2), 2) := by decide +kernel
theorem dX11_count_23 : decode cX11_count 23 = .ok (.ireturn, 1) := by decide +kernel
theorem dX11_image_0 : decode cX11_image 0 = .ok (.iload_n 1, 1) := by decide +kernel
theorem dX11_image_1 : decode cX11_image 1 = .ok (.ifCond .lt 8, 3) := by decide +kernel
theorem dX11_image_4 : decode cX11_image 4 = .ok (.iload_n 1, 1) := by decide +kernel
theorem dX11_image_5 : decode cX11_image 5 = .ok (.iconst 3, 1) := by decide +kernel
theorem dX11_image_6 : decode cX11_image 6 = .ok (.if_icmp .lt 5, 3) := by decide +kernel
theorem dX11_image_9 : decode cX11_image 9 = .ok (.iconst 0, 1) := by decide +kernel
theorem dX11_image_10 : decode cX11_image 10 = .ok (.ireturn, 1) := by decide +kernel
theorem dX11_image_11 : decode cX11_image 11 = .ok (.aload_n 0, 1) := by decide +kernel
theorem dX11_image_12 : decode cX11_image 12 = .ok (.getfield 16, 3) := by decide +kernel
theorem dX11_image_15 : decode cX11_image 15 = .ok (.iload_n 1, 1) := by decide +kernel
theorem dX11_image_16 : decode cX11_image 16 = .ok (.aaload, 1) := by decide +kernel
theorem dX11_image_17 : decode cX11_image 17 = .ok (.aload_n 0, 1) := by decide +kernel
theorem dX11_image_18 : decode cX11_image 18 = .ok (.getfield 10, 3) := by decide +kernel
theorem dX11_image_21 : decode cX11_image 21 = .ok (.invokevirtual 304, 3) := by decide +kernel
theorem dX11_image_24 : decode cX11_image 24 = .ok (.aload_n 0, 1) := by decide +kernel
theorem dX11_image_25 : decode cX11_image 25 = .ok (.getfield 20, 3) := by decide +kernel
theorem dX11_image_28 : decode cX11_image 28 = .ok (.iload_n 1, 1) := by decide +kernel
theorem dX11_image_29 : decode cX11_image 29 = .ok (.iconst 1, 1) := by decide +kernel
theorem dX11_image_30 : decode cX11_image 30 = .ok (.bastore, 1) := by decide +kernel
theorem dX11_image_31 : decode cX11_image 31 = .ok (.iconst 1, 1) := by decide +kernel
theorem dX11_image_32 : decode cX11_image 32 = .ok (.ireturn, 1) := by decide +kernel
theorem dX11_again_0 : decode cX11_again 0 = .ok (.iload_n 1, 1) := by decide +kernel
theorem dX11_again_1 : decode cX11_again 1 = .ok (.ifCond .lt 17, 3) := by decide +kernel
theorem dX11_again_4 : decode cX11_again 4 = .ok (.iload_n 1, 1) := by decide +kernel
theorem dX11_again_5 : decode cX11_again 5 = .ok (.iconst 3, 1) := by decide +kernel
theorem dX11_again_6 : decode cX11_again 6 = .ok (.if_icmp .ge 12, 3) := by decide +kernel
theorem dX11_again_9 : decode cX11_again 9 = .ok (.aload_n 0, 1) := by decide +kernel
theorem dX11_again_10 : decode cX11_again 10 = .ok (.getfield 20, 3) := by decide +kernel
theorem dX11_again_13 : decode cX11_again 13 = .ok (.iload_n 1, 1) := by decide +kernel
theorem dX11_again_14 : decode cX11_again 14 = .ok (.baload, 1) := by decide +kernel
theorem dX11_again_15 : decode cX11_again 15 = .ok (.ifCond .ne 5, 3) := by decide +kernel
theorem dX11_again_18 : decode cX11_again 18 = .ok (.iconst 0, 1) := by decide +kernel
theorem dX11_again_19 : decode cX11_again 19 = .ok (.ireturn, 1) := by decide +kernel
theorem dX11_again_20 : decode cX11_again 20 = .ok (.aload_n 0, 1) := by decide +kernel
theorem dX11_again_21 : decode cX11_again 21 = .ok (.getfield 10, 3) := by decide +kernel
theorem dX11_again_24 : decode cX11_again 24 = .ok (.aload_n 0, 1) := by decide +kernel
theorem dX11_again_25 : decode cX11_again 25 = .ok (.getfield 16, 3) := by decide +kernel
theorem dX11_again_28 : decode cX11_again 28 = .ok (.iload_n 1, 1) := by decide +kernel
theorem dX11_again_29 : decode cX11_again 29 = .ok (.aaload, 1) := by decide +kernel
theorem dX11_again_30 : decode cX11_again 30 = .ok (.invokevirtual 304, 3) := by decide +kernel
theorem dX11_again_33 : decode cX11_again 33 = .ok (.iconst 1, 1) := by decide +kernel
theorem dX11_again_34 : decode cX11_again 34 = .ok (.ireturn, 1) := by decide +kernel
theorem dX11_play_0 : decode cX11_play 0 = .ok (.aload_n 0, 1) := by decide +kernel
theorem dX11_play_1 : decode cX11_play 1 = .ok (.getfield 10, 3) := by decide +kernel
theorem dX11_play_4 : decode cX11_play 4 = .ok (.iconst 0, 1) := by decide +kernel
theorem dX11_play_5 : decode cX11_play 5 = .ok (.iload_n 1, 1) := by decide +kernel
theorem dX11_play_6 : decode cX11_play 6 = .ok (.invokevirtual 109, 3) := by decide +kernel
theorem dX11_play_9 : decode cX11_play 9 = .ok (.ifCond .eq 27, 3) := by decide +kernel
theorem dX11_play_12 : decode cX11_play 12 = .ok (.aload_n 0, 1) := by decide +kernel
theorem dX11_play_13 : decode cX11_play 13 = .ok (.getfield 10, 3) := by decide +kernel
theorem dX11_play_16 : decode cX11_play 16 = .ok (.iconst 1, 1) := by decide +kernel
theorem dX11_play_17 : decode cX11_play 17 = .ok (.iload_n 2, 1) := by decide +kernel
theorem dX11_play_18 : decode cX11_play 18 = .ok (.invokevirtual 109, 3) := by decide +kernel
theorem dX11_play_21 : decode cX11_play 21 = .ok (.ifCond .eq 15, 3) := by decide +kernel
theorem dX11_play_24 : decode cX11_play 24 = .ok (.aload_n 0, 1) := by decide +kernel
theorem dX11_play_25 : decode cX11_play 25 = .ok (.getfield 10, 3) := by decide +kernel
theorem dX11_play_28 : decode cX11_play 28 = .ok (.iconst 2, 1) := by decide +kernel
theorem dX11_play_29 : decode cX11_play 29 = .ok (.iload_n 3, 1) := by decide +kernel
theorem dX11_play_30 : decode cX11_play 30 = .ok (.invokevirtual 109, 3) := by decide +kernel
theorem dX11_play_33 : decode cX11_play 33 = .ok (.ifCond .ne 5, 3) := by decide +kernel
theorem dX11_play_36 : decode cX11_play 36 = .ok (.iconst 0, 1) := by decide +kernel
theorem dX11_play_37 : decode cX11_play 37 = .ok (.ireturn, 1) := by decide +kernel
theorem dX11_play_38 : decode cX11_play 38 = .ok (.aload_n 0, 1) := by decide +kernel
theorem dX11_play_39 : decode cX11_play 39 = .ok (.getfield 10, 3) := by decide +kernel
theorem dX11_play_42 : decode cX11_play 42 = .ok (.getfield 152, 3) := by decide +kernel
theorem dX11_play_45 : decode cX11_play 45 = .ok (.iload_n 3, 1) := by decide +kernel
theorem dX11_play_46 : decode cX11_play 46 = .ok (.aaload, 1) := by decide +kernel
theorem dX11_play_47 : decode cX11_play 47 = .ok (.astore 5, 2) := by decide +kernel
theorem dX11_play_49 : decode cX11_play 49 = .ok (.aload_n 0, 1) := by decide +kernel
theorem dX11_play_50 : decode cX11_play 50 = .ok (.getfield 50, 3) := by decide +kernel
theorem dX11_play_53 : decode cX11_play 53 = .ok (.aload_n 0, 1) := by decide +kernel
theorem dX11_play_54 : decode cX11_play 54 = .ok (.getfield 10, 3) := by decide +kernel
theorem dX11_play_57 : decode cX11_play 57 = .ok (.getfield 39, 3) := by decide +kernel
theorem dX11_play_60 : decode cX11_play 60 = .ok (.iload_n 1, 1) := by decide +kernel
theorem dX11_play_61 : decode cX11_play 61 = .ok (.aaload, 1) := by decide +kernel
theorem dX11_play_62 : decode cX11_play 62 = .ok (.aload_n 0, 1) := by decide +kernel
theorem dX11_play_63 : decode cX11_play 63 = .ok (.getfield 10, 3) := by decide +kernel
theorem dX11_play_66 : decode cX11_play 66 = .ok (.getfield 43, 3) := by decide +kernel
theorem dX11_play_69 : decode cX11_play 69 = .ok (.iload_n 2, 1) := by decide +kernel
theorem dX11_play_70 : decode cX11_play 70 = .ok (.aaload, 1) := by decide +kernel
theorem dX11_play_71 : decode cX11_play 71 = .ok (.invokevirtual 245, 3) := by decide +kernel
theorem dX11_play_74 : decode cX11_play 74 = .ok (.iconst 1, 1) := by decide +kernel
theorem dX11_play_75 : decode cX11_play 75 = .ok (.istore 6, 2) := by decide +kernel
theorem dX11_play_77 : decode cX11_play 77 = .ok (.iconst 0, 1) := by decide +kernel
theorem dX11_play_78 : decode cX11_play 78 = .ok (.istore 7, 2) := by decide +kernel
theorem dX11_play_80 : decode cX11_play 80 = .ok (.iload 7, 2) := by decide +kernel
theorem dX11_play_82 : decode cX11_play 82 = .ok (.iload 4, 2) := by decide +kernel
theorem dX11_play_84 : decode cX11_play 84 = .ok (.if_icmp .ge 57, 3) := by decide +kernel
theorem dX11_play_87 : decode cX11_play 87 = .ok (.iload 7, 2) := by decide +kernel
theorem dX11_play_89 : decode cX11_play 89 = .ok (.aload 5, 2) := by decide +kernel
theorem dX11_play_91 : decode cX11_play 91 = .ok (.getfield 156, 3) := by decide +kernel
theorem dX11_play_94 : decode cX11_play 94 = .ok (.if_icmp .ge 47, 3) := by decide +kernel
theorem dX11_play_97 : decode cX11_play 97 = .ok (.iload 6, 2) := by decide +kernel
theorem dX11_play_99 : decode cX11_play 99 = .ok (.ifCond .eq 42, 3) := by decide +kernel
theorem dX11_play_102 : decode cX11_play 102 = .ok (.aload_n 0, 1) := by decide +kernel
theorem dX11_play_103 : decode cX11_play 103 = .ok (.getfield 50, 3) := by decide +kernel
theorem dX11_play_106 : decode cX11_play 106 = .ok (.aload 5, 2) := by decide +kernel
theorem dX11_play_108 : decode cX11_play 108 = .ok (.getfield 159, 3) := by decide +kernel
theorem dX11_play_111 : decode cX11_play 111 = .ok (.iload 7, 2) := by decide +kernel
theorem dX11_play_113 : decode cX11_play 113 = .ok (.iaload, 1) := by decide +kernel
theorem dX11_play_114 : decode cX11_play 114 = .ok (.aload 5, 2) := by decide +kernel
theorem dX11_play_116 : decode cX11_play 116 = .ok (.getfield 160, 3) := by decide +kernel
theorem dX11_play_119 : decode cX11_play 119 = .ok (.iload 7, 2) := by decide +kernel
theorem dX11_play_121 : decode cX11_play 121 = .ok (.iaload, 1) := by decide +kernel
theorem dX11_play_122 : decode cX11_play 122 = .ok (.aload 5, 2) := by decide +kernel
theorem dX11_play_124 : decode cX11_play 124 = .ok (.getfield 163, 3) := by decide +kernel
theorem dX11_play_127 : decode cX11_play 127 = .ok (.iload 7, 2) := by decide +kernel
theorem dX11_play_129 : decode cX11_play 129 = .ok (.iaload, 1) := by decide +kernel
theorem dX11_play_130 : decode cX11_play 130 = .ok (.invokevirtual 308, 3) := by decide +kernel
theorem dX11_play_133 : decode cX11_play 133 = .ok (.istore 6, 2) := by decide +kernel
theorem dX11_play_135 : decode cX11_play 135 = .ok (.iinc 7 1, 3) := by decide +kernel
theorem dX11_play_138 : decode cX11_play 138 = .ok (.goto (-58), 3) := by decide +kernel
theorem dX11_play_141 : decode cX11_play 141 = .ok (.iconst 1, 1) := by decide +kernel
theorem dX11_play_142 : decode cX11_play 142 = .ok (.ireturn, 1) := by decide +kernel
theorem dX11_ofOrders_0 : decode cX11_ofOrders 0 = .ok (.aload_n 0, 1) := by decide +kernel
theorem dX11_ofOrders_1 : decode cX11_ofOrders 1 = .ok (.getfield 57, 3) := by decide +kernel
theorem dX11_ofOrders_4 : decode cX11_ofOrders 4 = .ok (.getfield 201, 3) := by decide +kernel
theorem dX11_ofOrders_7 : decode cX11_ofOrders 7 = .ok (.bipush 6, 2) := by decide +kernel
theorem dX11_ofOrders_9 : decode cX11_ofOrders 9 = .ok (.if_icmp .le 5, 3) := by decide +kernel
theorem dX11_ofOrders_12 : decode cX11_ofOrders 12 = .ok (.iconst (-1), 1) := by decide +kernel
theorem dX11_ofOrders_13 : decode cX11_ofOrders 13 = .ok (.ireturn, 1) := by decide +kernel
theorem dX11_ofOrders_14 : decode cX11_ofOrders 14 = .ok (.aload_n 0, 1) := by decide +kernel
theorem dX11_ofOrders_15 : decode cX11_ofOrders 15 = .ok (.getfield 57, 3) := by decide +kernel
theorem dX11_ofOrders_18 : decode cX11_ofOrders 18 = .ok (.aload_n 0, 1) := by decide +kernel
theorem dX11_ofOrders_19 : decode cX11_ofOrders 19 = .ok (.getfield 50, 3) := by decide +kernel
theorem dX11_ofOrders_22 : decode cX11_ofOrders 22 = .ok (.invokevirtual 312, 3) := by decide +kernel
theorem dX11_ofOrders_25 : decode cX11_ofOrders 25 = .ok (.iload_n 1, 1) := by decide +kernel
theorem dX11_ofOrders_26 : decode cX11_ofOrders 26 = .ok (.iconst 1, 1) := by decide +kernel
theorem dX11_ofOrders_27 : decode cX11_ofOrders 27 = .ok (.if_icmp .ne 11, 3) := by decide +kernel
theorem dX11_ofOrders_30 : decode cX11_ofOrders 30 = .ok (.aload_n 0, 1) := by decide +kernel
theorem dX11_ofOrders_31 : decode cX11_ofOrders 31 = .ok (.getfield 57, 3) := by decide +kernel
theorem dX11_ofOrders_34 : decode cX11_ofOrders 34 = .ok (.getfield 315, 3) := by decide +kernel
theorem dX11_ofOrders_37 : decode cX11_ofOrders 37 = .ok (.ireturn, 1) := by decide +kernel
theorem dX11_ofOrders_38 : decode cX11_ofOrders 38 = .ok (.iload_n 1, 1) := by decide +kernel
theorem dX11_ofOrders_39 : decode cX11_ofOrders 39 = .ok (.bipush 50, 2) := by decide +kernel
theorem dX11_ofOrders_41 : decode cX11_ofOrders 41 = .ok (.isub, 1) := by decide +kernel
theorem dX11_ofOrders_42 : decode cX11_ofOrders 42 = .ok (.aload_n 0, 1) := by decide +kernel
theorem dX11_ofOrders_43 : decode cX11_ofOrders 43 = .ok (.getfield 57, 3) := by decide +kernel
theorem dX11_ofOrders_46 : decode cX11_ofOrders 46 = .ok (.getfield 201, 3) := by decide +kernel
theorem dX11_ofOrders_49 : decode cX11_ofOrders 49 = .ok (.if_icmp .ge 28, 3) := by decide +kernel
theorem dX11_ofOrders_52 : decode cX11_ofOrders 52 = .ok (.aload_n 0, 1) := by decide +kernel
theorem dX11_ofOrders_53 : decode cX11_ofOrders 53 = .ok (.getfield 57, 3) := by decide +kernel
theorem dX11_ofOrders_56 : decode cX11_ofOrders 56 = .ok (.getfield 315, 3) := by decide +kernel
theorem dX11_ofOrders_59 : decode cX11_ofOrders 59 = .ok (.ifCond .le 18, 3) := by decide +kernel
theorem dX11_ofOrders_62 : decode cX11_ofOrders 62 = .ok (.aload_n 0, 1) := by decide +kernel
theorem dX11_ofOrders_63 : decode cX11_ofOrders 63 = .ok (.getfield 57, 3) := by decide +kernel
theorem dX11_ofOrders_66 : decode cX11_ofOrders 66 = .ok (.getfield 318, 3) := by decide +kernel
theorem dX11_ofOrders_69 : decode cX11_ofOrders 69 = .ok (.iload_n 1, 1) := by decide +kernel
theorem dX11_ofOrders_70 : decode cX11_ofOrders 70 = .ok (.bipush 50, 2) := by decide +kernel
theorem dX11_ofOrders_72 : decode cX11_ofOrders 72 = .ok (.isub, 1) := by decide +kernel
theorem dX11_ofOrders_73 : decode cX11_ofOrders 73 = .ok (.iaload, 1) := by decide +kernel
theorem dX11_ofOrders_74 : decode cX11_ofOrders 74 = .ok (.goto 4, 3) := by decide +kernel
theorem dX11_ofOrders_77 : decode cX11_ofOrders 77 = .ok (.iconst (-1), 1) := by decide +kernel
theorem dX11_ofOrders_78 : decode cX11_ofOrders 78 = .ok (.ireturn, 1) := by decide +kernel
theorem dX11_drawBelow_0 : decode cX11_drawBelow 0 = .ok (.aload_n 0, 1) := by decide +kernel
theorem dX11_drawBelow_1 : decode cX11_drawBelow 1 = .ok (.aload_n 0, 1) := by decide +kernel
theorem dX11_drawBelow_2 : decode cX11_drawBelow 2 = .ok (.getfield 248, 3) := by decide +kernel
theorem dX11_drawBelow_5 : decode cX11_drawBelow 5 = .ok (.ldc_w 321, 3) := by decide +kernel
theorem dX11_drawBelow_8 : decode cX11_drawBelow 8 = .ok (.imul, 1) := by decide +kernel
theorem dX11_drawBelow_9 : decode cX11_drawBelow 9 = .ok (.sipush 12345, 3) := by decide +kernel
theorem dX11_drawBelow_12 : decode cX11_drawBelow 12 = .ok (.iadd, 1) := by decide +kernel
theorem dX11_drawBelow_13 : decode cX11_drawBelow 13 = .ok (.putfield 248, 3) := by decide +kernel
theorem dX11_drawBelow_16 : decode cX11_drawBelow 16 = .ok (.iload_n 1, 1) := by decide +kernel
theorem dX11_drawBelow_17 : decode cX11_drawBelow 17 = .ok (.ifCond .le 15, 3) := by decide +kernel
theorem dX11_drawBelow_20 : decode cX11_drawBelow 20 = .ok (.aload_n 0, 1) := by decide +kernel
theorem dX11_drawBelow_21 : decode cX11_drawBelow 21 = .ok (.getfield 248, 3) := by decide +kernel
theorem dX11_drawBelow_24 : decode cX11_drawBelow 24 = .ok (.bipush 16, 2) := by decide +kernel
theorem dX11_drawBelow_26 : decode cX11_drawBelow 26 = .ok (.iushr, 1) := by decide +kernel
theorem dX11_drawBelow_27 : decode cX11_drawBelow 27 = .ok (.iload_n 1, 1) := by decide +kernel
theorem dX11_drawBelow_28 : decode cX11_drawBelow 28 = .ok (.irem, 1) := by decide +kernel
theorem dX11_drawBelow_29 : decode cX11_drawBelow 29 = .ok (.goto 4, 3) := by decide +kernel
theorem dX11_drawBelow_32 : decode cX11_drawBelow 32 = .ok (.iconst 0, 1) := by decide +kernel
theorem dX11_drawBelow_33 : decode cX11_drawBelow 33 = .ok (.ireturn, 1) := by decide +kernel
theorem dX11_performDrawn_0 : decode cX11_performDrawn 0 = .ok (.aload_n 0, 1) := by decide +kernel
theorem dX11_performDrawn_1 : decode cX11_performDrawn 1 = .ok (.bipush 12, 2) := by decide +kernel
theorem dX11_performDrawn_3 : decode cX11_performDrawn 3 = .ok (.invokevirtual 322, 3) := by decide +kernel
theorem dX11_performDrawn_6 : decode cX11_performDrawn 6 = .ok (.istore_n 2, 1) := by decide +kernel
theorem dX11_performDrawn_7 : decode cX11_performDrawn 7 = .ok (.iload_n 2, 1) := by decide +kernel
theorem dX11_performDrawn_8 : decode cX11_performDrawn 8 = .ok (.iconst 2, 1) := by decide +kernel
theorem dX11_performDrawn_9 : decode cX11_performDrawn 9 = .ok (.if_icmp .gt 38, 3) := by decide +kernel
theorem dX11_performDrawn_12 : decode cX11_performDrawn 12 = .ok (.iload_n 1, 1) := by decide +kernel
theorem dX11_performDrawn_13 : decode cX11_performDrawn 13 = .ok (.ifCond .le 163, 3) := by decide +kernel
theorem dX11_performDrawn_16 : decode cX11_performDrawn 16 = .ok (.aload_n 0, 1) := by decide +kernel
theorem dX11_performDrawn_17 : decode cX11_performDrawn 17 = .ok (.aload_n 0, 1) := by decide +kernel
theorem dX11_performDrawn_18 : decode cX11_performDrawn 18 = .ok (.getfield 50, 3) := by decide +kernel
theorem dX11_performDrawn_21 : decode cX11_performDrawn 21 = .ok (.getfield 238, 3) := by decide +kernel
theorem dX11_performDrawn_24 : decode cX11_performDrawn 24 = .ok (.invokevirtual 322, 3) := by decide +kernel
theorem dX11_performDrawn_27 : decode cX11_performDrawn 27 = .ok (.istore_n 3, 1) := by decide +kernel
theorem dX11_performDrawn_28 : decode cX11_performDrawn 28 = .ok (.aload_n 0, 1) := by decide +kernel
theorem dX11_performDrawn_29 : decode cX11_performDrawn 29 = .ok (.getfield 50, 3) := by decide +kernel
theorem dX11_performDrawn_32 : decode cX11_performDrawn 32 = .ok (.bipush 6, 2) := by decide +kernel
theorem dX11_performDrawn_34 : decode cX11_performDrawn 34 = .ok (.iload_n 3, 1) := by decide +kernel
theorem dX11_performDrawn_35 : decode cX11_performDrawn 35 = .ok (.aload_n 0, 1) := by decide +kernel
theorem dX11_performDrawn_36 : decode cX11_performDrawn 36 = .ok (.iload_n 1, 1) := by decide +kernel
theorem dX11_performDrawn_37 : decode cX11_performDrawn 37 = .ok (.invokevirtual 322, 3) := by decide +kernel
theorem dX11_performDrawn_40 : decode cX11_performDrawn 40 = .ok (.invokevirtual 308, 3) := by decide +kernel
theorem dX11_performDrawn_43 : decode cX11_performDrawn 43 = .ok (.pop, 1) := by decide +kernel
theorem dX11_performDrawn_44 : decode cX11_performDrawn 44 = .ok (.goto 132, 3) := by decide +kernel
theorem dX11_performDrawn_47 : decode cX11_performDrawn 47 = .ok (.iload_n 2, 1) := by decide +kernel
theorem dX11_performDrawn_48 : decode cX11_performDrawn 48 = .ok (.bipush 6, 2) := by decide +kernel
theorem dX11_performDrawn_50 : decode cX11_performDrawn 50 = .ok (.if_icmp .gt 27, 3) := by decide +kernel
theorem dX11_performDrawn_53 : decode cX11_performDrawn 53 = .ok (.aload_n 0, 1) := by decide +kernel
theorem dX11_performDrawn_54 : decode cX11_performDrawn 54 = .ok (.getfield 50, 3) := by decide +kernel
theorem dX11_performDrawn_57 : decode cX11_performDrawn 57 = .ok (.iconst 2, 1) := by decide +kernel
theorem dX11_performDrawn_58 : decode cX11_performDrawn 58 = .ok (.aload_n 0, 1) := by decide +kernel
theorem dX11_performDrawn_59 : decode cX11_performDrawn 59 = .ok (.aload_n 0, 1) := by decide +kernel
theorem dX11_performDrawn_60 : decode cX11_performDrawn 60 = .ok (.getfield 50, 3) := by decide +kernel
theorem dX11_performDrawn_63 : decode cX11_performDrawn 63 = .ok (.getfield 238, 3) := by decide +kernel
theorem dX11_performDrawn_66 : decode cX11_performDrawn 66 = .ok (.invokevirtual 322, 3) := by decide +kernel
theorem dX11_performDrawn_69 : decode cX11_performDrawn 69 = .ok (.iconst (-1), 1) := by decide +kernel
theorem dX11_performDrawn_70 : decode cX11_performDrawn 70 = .ok (.invokevirtual 308, 3) := by decide +kernel
theorem dX11_performDrawn_73 : decode cX11_performDrawn 73 = .ok (.pop, 1) := by decide +kernel
theorem dX11_performDrawn_74 : decode cX11_performDrawn 74 = .ok (.goto 102, 3) := by decide +kernel
theorem dX11_performDrawn_77 : decode cX11_performDrawn 77 = .ok (.iload_n 2, 1) := by decide +kernel
theorem dX11_performDrawn_78 : decode cX11_performDrawn 78 = .ok (.bipush 8, 2) := by decide +kernel
theorem dX11_performDrawn_80 : decode cX11_performDrawn 80 = .ok (.if_icmp .gt 27, 3) := by decide +kernel
theorem dX11_performDrawn_83 : decode cX11_performDrawn 83 = .ok (.aload_n 0, 1) := by decide +kernel
theorem dX11_performDrawn_84 : decode cX11_performDrawn 84 = .ok (.getfield 50, 3) := by decide +kernel
theorem dX11_performDrawn_87 : decode cX11_performDrawn 87 = .ok (.iconst 3, 1) := by decide +kernel
theorem dX11_performDrawn_88 : decode cX11_performDrawn 88 = .ok (.aload_n 0, 1) := by decide +kernel
theorem dX11_performDrawn_89 : decode cX11_performDrawn 89 = .ok (.aload_n 0, 1) := by decide +kernel
theorem dX11_performDrawn_90 : decode cX11_performDrawn 90 = .ok (.getfield 50, 3) := by decide +kernel
theorem dX11_performDrawn_93 : decode cX11_performDrawn 93 = .ok (.getfield 238, 3) := by decide +kernel
theorem dX11_performDrawn_96 : decode cX11_performDrawn 96 = .ok (.invokevirtual 322, 3) := by decide +kernel
theorem dX11_performDrawn_99 : decode cX11_performDrawn 99 = .ok (.iconst (-1), 1) := by decide +kernel
theorem dX11_performDrawn_100 : decode cX11_performDrawn 100 = .ok (.invokevirtual 308, 3) := by decide +kernel
theorem dX11_performDrawn_103 : decode cX11_performDrawn 103 = .ok (.pop, 1) := by decide +kernel
theorem dX11_performDrawn_104 : decode cX11_performDrawn 104 = .ok (.goto 72, 3) := by decide +kernel
theorem dX11_performDrawn_107 : decode cX11_performDrawn 107 = .ok (.iload_n 2, 1) := by decide +kernel
theorem dX11_performDrawn_108 : decode cX11_performDrawn 108 = .ok (.bipush 9, 2) := by decide +kernel
theorem dX11_performDrawn_110 : decode cX11_performDrawn 110 = .ok (.if_icmp .ne 27, 3) := by decide +kernel
theorem dX11_performDrawn_113 : decode cX11_performDrawn 113 = .ok (.aload_n 0, 1) := by decide +kernel
theorem dX11_performDrawn_114 : decode cX11_performDrawn 114 = .ok (.getfield 50, 3) := by decide +kernel
theorem dX11_performDrawn_117 : decode cX11_performDrawn 117 = .ok (.iconst 5, 1) := by decide +kernel
theorem dX11_performDrawn_118 : decode cX11_performDrawn 118 = .ok (.aload_n 0, 1) := by decide +kernel
theorem dX11_performDrawn_119 : decode cX11_performDrawn 119 = .ok (.aload_n 0, 1) := by decide +kernel
theorem dX11_performDrawn_120 : decode cX11_performDrawn 120 = .ok (.getfield 50, 3) := by decide +kernel
theorem dX11_performDrawn_123 : decode cX11_performDrawn 123 = .ok (.getfield 238, 3) := by decide +kernel
theorem dX11_performDrawn_126 : decode cX11_performDrawn 126 = .ok (.invokevirtual 322, 3) := by decide +kernel
theorem dX11_performDrawn_129 : decode cX11_performDrawn 129 = .ok (.iconst (-1), 1) := by decide +kernel
theorem dX11_performDrawn_130 : decode cX11_performDrawn 130 = .ok (.invokevirtual 308, 3) := by decide +kernel
theorem dX11_performDrawn_133 : decode cX11_performDrawn 133 = .ok (.pop, 1) := by decide +kernel
theorem dX11_performDrawn_134 : decode cX11_performDrawn 134 = .ok (.goto 42, 3) := by decide +kernel
theorem dX11_performDrawn_137 : decode cX11_performDrawn 137 = .ok (.iload_n 2, 1) := by decide +kernel
theorem dX11_performDrawn_138 : decode cX11_performDrawn 138 = .ok (.bipush 10, 2) := by decide +kernel
theorem dX11_performDrawn_140 : decode cX11_performDrawn 140 = .ok (.if_icmp .ne 17, 3) := by decide +kernel
theorem dX11_performDrawn_143 : decode cX11_performDrawn 143 = .ok (.aload_n 0, 1) := by decide +kernel
theorem dX11_performDrawn_144 : decode cX11_performDrawn 144 = .ok (.getfield 50, 3) := by decide +kernel
theorem dX11_performDrawn_147 : decode cX11_performDrawn 147 = .ok (.iconst 0, 1) := by decide +kernel
theorem dX11_performDrawn_148 : decode cX11_performDrawn 148 = .ok (.iconst (-1), 1) := by decide +kernel
theorem dX11_performDrawn_149 : decode cX11_performDrawn 149 = .ok (.iconst (-1), 1) := by decide +kernel
theorem dX11_performDrawn_150 : decode cX11_performDrawn 150 = .ok (.invokevirtual 308, 3) := by decide +kernel
theorem dX11_performDrawn_153 : decode cX11_performDrawn 153 = .ok (.pop, 1) := by decide +kernel
theorem dX11_performDrawn_154 : decode cX11_performDrawn 154 = .ok (.goto 22, 3) := by decide +kernel
theorem dX11_performDrawn_157 : decode cX11_performDrawn 157 = .ok (.aload_n 0, 1) := by decide +kernel
theorem dX11_performDrawn_158 : decode cX11_performDrawn 158 = .ok (.iconst 4, 1) := by decide +kernel
theorem dX11_performDrawn_159 : decode cX11_performDrawn 159 = .ok (.invokevirtual 322, 3) := by decide +kernel
theorem dX11_performDrawn_162 : decode cX11_performDrawn 162 = .ok (.ifCond .ne 14, 3) := by decide +kernel
theorem dX11_performDrawn_165 : decode cX11_performDrawn 165 = .ok (.aload_n 0, 1) := by decide +kernel
theorem dX11_performDrawn_166 : decode cX11_performDrawn 166 = .ok (.getfield 50, 3) := by decide +kernel
theorem dX11_performDrawn_169 : decode cX11_performDrawn 169 = .ok (.iconst 1, 1) := by decide +kernel
theorem dX11_performDrawn_170 : decode cX11_performDrawn 170 = .ok (.iconst (-1), 1) := by decide +kernel
theorem dX11_performDrawn_171 : decode cX11_performDrawn 171 = .ok (.iconst (-1), 1) := by decide +kernel
theorem dX11_performDrawn_172 : decode cX11_performDrawn 172 = .ok (.invokevirtual 308, 3) := by decide +kernel
theorem dX11_performDrawn_175 : decode cX11_performDrawn 175 = .ok (.pop, 1) := by decide +kernel
theorem dX11_performDrawn_176 : decode cX11_performDrawn 176 = .ok (.return_, 1) := by decide +kernel
theorem dX11_runBoth_0 : decode cX11_runBoth 0 = .ok (.aload_n 0, 1) := by decide +kernel
theorem dX11_runBoth_1 : decode cX11_runBoth 1 = .ok (.getfield 121, 3) := by decide +kernel
theorem dX11_runBoth_4 : decode cX11_runBoth 4 = .ok (.aload 4, 2) := by decide +kernel
theorem dX11_runBoth_6 : decode cX11_runBoth 6 = .ok (.invokestatic 266, 3) := by decide +kernel
theorem dX11_runBoth_9 : decode cX11_runBoth 9 = .ok (.aload_n 1, 1) := by decide +kernel
theorem dX11_runBoth_10 : decode cX11_runBoth 10 = .ok (.iload_n 2, 1) := by decide +kernel
theorem dX11_runBoth_11 : decode cX11_runBoth 11 = .ok (.aload 4, 2) := by decide +kernel
theorem dX11_runBoth_13 : decode cX11_runBoth 13 = .ok (.invokevirtual 270, 3) := by decide +kernel
theorem dX11_runBoth_16 : decode cX11_runBoth 16 = .ok (.pop, 1) := by decide +kernel
theorem dX11_runBoth_17 : decode cX11_runBoth 17 = .ok (.aload_n 1, 1) := by decide +kernel
theorem dX11_runBoth_18 : decode cX11_runBoth 18 = .ok (.iload_n 3, 1) := by decide +kernel
theorem dX11_runBoth_19 : decode cX11_runBoth 19 = .ok (.aload 4, 2) := by decide +kernel
theorem dX11_runBoth_21 : decode cX11_runBoth 21 = .ok (.invokevirtual 270, 3) := by decide +kernel
theorem dX11_runBoth_24 : decode cX11_runBoth 24 = .ok (.pop, 1) := by decide +kernel
theorem dX11_runBoth_25 : decode cX11_runBoth 25 = .ok (.return_, 1) := by decide +kernel
theorem dX11_weaveAll_0 : decode cX11_weaveAll 0 = .ok (.aload_n 0, 1) := by decide +kernel
theorem dX11_weaveAll_1 : decode cX11_weaveAll 1 = .ok (.getfield 68, 3) := by decide +kernel
theorem dX11_weaveAll_4 : decode cX11_weaveAll 4 = .ok (.iconst 0, 1) := by decide +kernel
theorem dX11_weaveAll_5 : decode cX11_weaveAll 5 = .ok (.invokestatic 325, 3) := by decide +kernel
theorem dX11_weaveAll_8 : decode cX11_weaveAll 8 = .ok (.aload_n 0, 1) := by decide +kernel
theorem dX11_weaveAll_9 : decode cX11_weaveAll 9 = .ok (.getfield 50, 3) := by decide +kernel
theorem dX11_weaveAll_12 : decode cX11_weaveAll 12 = .ok (.aload_n 1, 1) := by decide +kernel
theorem dX11_weaveAll_13 : decode cX11_weaveAll 13 = .ok (.aload_n 2, 1) := by decide +kernel
theorem dX11_weaveAll_14 : decode cX11_weaveAll 14 = .ok (.invokevirtual 245, 3) := by decide +kernel
theorem dX11_weaveAll_17 : decode cX11_weaveAll 17 = .ok (.aload_n 2, 1) := by decide +kernel
theorem dX11_weaveAll_18 : decode cX11_weaveAll 18 = .ok (.getfield 140, 3) := by decide +kernel
theorem dX11_weaveAll_21 : decode cX11_weaveAll 21 = .ok (.iload_n 3, 1) := by decide +kernel
theorem dX11_weaveAll_22 : decode cX11_weaveAll 22 = .ok (.iaload, 1) := by decide +kernel
theorem dX11_weaveAll_23 : decode cX11_weaveAll 23 = .ok (.istore 5, 2) := by decide +kernel
theorem dX11_weaveAll_25 : decode cX11_weaveAll 25 = .ok (.aload_n 2, 1) := by decide +kernel
theorem dX11_weaveAll_26 : decode cX11_weaveAll 26 = .ok (.getfield 140, 3) := by decide +kernel
theorem dX11_weaveAll_29 : decode cX11_weaveAll 29 = .ok (.iload 4, 2) := by decide +kernel
theorem dX11_weaveAll_31 : decode cX11_weaveAll 31 = .ok (.iaload, 1) := by decide +kernel
theorem dX11_weaveAll_32 : decode cX11_weaveAll 32 = .ok (.istore 6, 2) := by decide +kernel
theorem dX11_weaveAll_34 : decode cX11_weaveAll 34 = .ok (.iload 5, 2) := by decide +kernel
theorem dX11_weaveAll_36 : decode cX11_weaveAll 36 = .ok (.ifCond .ne 7, 3) := by decide +kernel
theorem dX11_weaveAll_39 : decode cX11_weaveAll 39 = .ok (.iconst 1, 1) := by decide +kernel
theorem dX11_weaveAll_40 : decode cX11_weaveAll 40 = .ok (.goto 5, 3) := by decide +kernel
theorem dX11_weaveAll_43 : decode cX11_weaveAll 43 = .ok (.iload 6, 2) := by decide +kernel
theorem dX11_weaveAll_45 : decode cX11_weaveAll 45 = .ok (.istore 7, 2) := by decide +kernel
theorem dX11_weaveAll_47 : decode cX11_weaveAll 47 = .ok (.iconst 0, 1) := by decide +kernel
theorem dX11_weaveAll_48 : decode cX11_weaveAll 48 = .ok (.istore 8, 2) := by decide +kernel
theorem dX11_weaveAll_50 : decode cX11_weaveAll 50 = .ok (.iload 8, 2) := by decide +kernel
theorem dX11_weaveAll_52 : decode cX11_weaveAll 52 = .ok (.iload 7, 2) := by decide +kernel
theorem dX11_weaveAll_54 : decode cX11_weaveAll 54 = .ok (.if_icmp .ge 34, 3) := by decide +kernel
theorem dX11_weaveAll_57 : decode cX11_weaveAll 57 = .ok (.aload_n 0, 1) := by decide +kernel
theorem dX11_weaveAll_58 : decode cX11_weaveAll 58 = .ok (.iconst 1, 1) := by decide +kernel
theorem dX11_weaveAll_59 : decode cX11_weaveAll 59 = .ok (.aload_n 0, 1) := by decide +kernel
theorem dX11_weaveAll_60 : decode cX11_weaveAll 60 = .ok (.getfield 50, 3) := by decide +kernel
theorem dX11_weaveAll_63 : decode cX11_weaveAll 63 = .ok (.iload_n 3, 1) := by decide +kernel
theorem dX11_weaveAll_64 : decode cX11_weaveAll 64 = .ok (.iload 4, 2) := by decide +kernel
theorem dX11_weaveAll_66 : decode cX11_weaveAll 66 = .ok (.iconst 0, 1) := by decide +kernel
theorem dX11_weaveAll_67 : decode cX11_weaveAll 67 = .ok (.iload 8, 2) := by decide +kernel
theorem dX11_weaveAll_69 : decode cX11_weaveAll 69 = .ok (.invokevirtual 331, 3) := by decide +kernel
theorem dX11_weaveAll_72 : decode cX11_weaveAll 72 = .ok (.iload 5, 2) := by decide +kernel
theorem dX11_weaveAll_74 : decode cX11_weaveAll 74 = .ok (.iload 8, 2) := by decide +kernel
theorem dX11_weaveAll_76 : decode cX11_weaveAll 76 = .ok (.invokestatic 335, 3) := by decide +kernel
theorem dX11_weaveAll_79 : decode cX11_weaveAll 79 = .ok (.invokevirtual 338, 3) := by decide +kernel
theorem dX11_weaveAll_82 : decode cX11_weaveAll 82 = .ok (.iinc 8 1, 3) := by decide +kernel
theorem dX11_weaveAll_85 : decode cX11_weaveAll 85 = .ok (.goto (-35), 3) := by decide +kernel
theorem dX11_weaveAll_88 : decode cX11_weaveAll 88 = .ok (.iload 6, 2) := by decide +kernel
theorem dX11_weaveAll_90 : decode cX11_weaveAll 90 = .ok (.ifCond .ne 12, 3) := by decide +kernel
theorem dX11_weaveAll_93 : decode cX11_weaveAll 93 = .ok (.iconst 1, 1) := by decide +kernel
theorem dX11_weaveAll_94 : decode cX11_weaveAll 94 = .ok (.iload 5, 2) := by decide +kernel
theorem dX11_weaveAll_96 : decode cX11_weaveAll 96 = .ok (.invokestatic 342, 3) := by decide +kernel
theorem dX11_weaveAll_99 : decode cX11_weaveAll 99 = .ok (.goto 5, 3) := by decide +kernel
theorem dX11_weaveAll_102 : decode cX11_weaveAll 102 = .ok (.iload 5, 2) := by decide +kernel
theorem dX11_weaveAll_104 : decode cX11_weaveAll 104 = .ok (.istore 8, 2) := by decide +kernel
theorem dX11_weaveAll_106 : decode cX11_weaveAll 106 = .ok (.iconst 0, 1) := by decide +kernel
theorem dX11_weaveAll_107 : decode cX11_weaveAll 107 = .ok (.istore 9, 2) := by decide +kernel
theorem dX11_weaveAll_109 : decode cX11_weaveAll 109 = .ok (.iload 9, 2) := by decide +kernel
theorem dX11_weaveAll_111 : decode cX11_weaveAll 111 = .ok (.iload 8, 2) := by decide +kernel
theorem dX11_weaveAll_113 : decode cX11_weaveAll 113 = .ok (.if_icmp .ge 34, 3) := by decide +kernel
theorem dX11_weaveAll_116 : decode cX11_weaveAll 116 = .ok (.aload_n 0, 1) := by decide +kernel
theorem dX11_weaveAll_117 : decode cX11_weaveAll 117 = .ok (.iconst 0, 1) := by decide +kernel
theorem dX11_weaveAll_118 : decode cX11_weaveAll 118 = .ok (.aload_n 0, 1) := by decide +kernel
theorem dX11_weaveAll_119 : decode cX11_weaveAll 119 = .ok (.getfield 50, 3) := by decide +kernel
theorem dX11_weaveAll_122 : decode cX11_weaveAll 122 = .ok (.iload_n 3, 1) := by decide +kernel
theorem dX11_weaveAll_123 : decode cX11_weaveAll 123 = .ok (.iload 4, 2) := by decide +kernel
theorem dX11_weaveAll_125 : decode cX11_weaveAll 125 = .ok (.iconst 1, 1) := by decide +kernel
theorem dX11_weaveAll_126 : decode cX11_weaveAll 126 = .ok (.iload 9, 2) := by decide +kernel
theorem dX11_weaveAll_128 : decode cX11_weaveAll 128 = .ok (.invokevirtual 331, 3) := by decide +kernel
theorem dX11_weaveAll_131 : decode cX11_weaveAll 131 = .ok (.iload 6, 2) := by decide +kernel
theorem dX11_weaveAll_133 : decode cX11_weaveAll 133 = .ok (.iload 9, 2) := by decide +kernel
theorem dX11_weaveAll_135 : decode cX11_weaveAll 135 = .ok (.invokestatic 335, 3) := by decide +kernel
theorem dX11_weaveAll_138 : decode cX11_weaveAll 138 = .ok (.invokevirtual 338, 3) := by decide +kernel
theorem dX11_weaveAll_141 : decode cX11_weaveAll 141 = .ok (.iinc 9 1, 3) := by decide +kernel
theorem dX11_weaveAll_144 : decode cX11_weaveAll 144 = .ok (.goto (-35), 3) := by decide +kernel
theorem dX11_weaveAll_147 : decode cX11_weaveAll 147 = .ok (.return_, 1) := by decide +kernel
theorem dX11_countWoven_0 : decode cX11_countWoven 0 = .ok (.aload_n 0, 1) := by decide +kernel
theorem dX11_countWoven_1 : decode cX11_countWoven 1 = .ok (.getfield 68, 3) := by decide +kernel
theorem dX11_countWoven_4 : decode cX11_countWoven 4 = .ok (.iconst 0, 1) := by decide +kernel
theorem dX11_countWoven_5 : decode cX11_countWoven 5 = .ok (.dup2, 1) := by decide +kernel
theorem dX11_countWoven_6 : decode cX11_countWoven 6 = .ok (.iaload, 1) := by decide +kernel
theorem dX11_countWoven_7 : decode cX11_countWoven 7 = .ok (.iload_n 3, 1) := by decide +kernel
theorem dX11_countWoven_8 : decode cX11_countWoven 8 = .ok (.iadd, 1) := by decide +kernel
theorem dX11_countWoven_9 : decode cX11_countWoven 9 = .ok (.iastore, 1) := by decide +kernel
theorem dX11_countWoven_10 : decode cX11_countWoven 10 = .ok (.iload_n 2, 1) := by decide +kernel
theorem dX11_countWoven_11 : decode cX11_countWoven 11 = .ok (.iconst 1, 1) := by decide +kernel
theorem dX11_countWoven_12 : decode cX11_countWoven 12 = .ok (.if_icmp .ne 14, 3) := by decide +kernel
theorem dX11_countWoven_15 : decode cX11_countWoven 15 = .ok (.aload_n 0, 1) := by decide +kernel
theorem dX11_countWoven_16 : decode cX11_countWoven 16 = .ok (.getfield 68, 3) := by decide +kernel
theorem dX11_countWoven_19 : decode cX11_countWoven 19 = .ok (.iconst 1, 1) := by decide +kernel
theorem dX11_countWoven_20 : decode cX11_countWoven 20 = .ok (.dup2, 1) := by decide +kernel
theorem dX11_countWoven_21 : decode cX11_countWoven 21 = .ok (.iaload, 1) := by decide +kernel
theorem dX11_countWoven_22 : decode cX11_countWoven 22 = .ok (.iload_n 3, 1) := by decide +kernel
theorem dX11_countWoven_23 : decode cX11_countWoven 23 = .ok (.iadd, 1) := by decide +kernel
theorem dX11_countWoven_24 : decode cX11_countWoven 24 = .ok (.iastore, 1) := by decide +kernel
theorem dX11_countWoven_25 : decode cX11_countWoven 25 = .ok (.return_, 1) := by decide +kernel
theorem dX11_countWoven_26 : decode cX11_countWoven 26 = .ok (.aload_n 0, 1) := by decide +kernel
theorem dX11_countWoven_27 : decode cX11_countWoven 27 = .ok (.getfield 68, 3) := by decide +kernel
theorem dX11_countWoven_30 : decode cX11_countWoven 30 = .ok (.iload_n 1, 1) := by decide +kernel
theorem dX11_countWoven_31 : decode cX11_countWoven 31 = .ok (.ifCond .ne 7, 3) := by decide +kernel
theorem dX11_countWoven_34 : decode cX11_countWoven 34 = .ok (.iconst 2, 1) := by decide +kernel
theorem dX11_countWoven_35 : decode cX11_countWoven 35 = .ok (.goto 4, 3) := by decide +kernel
theorem dX11_countWoven_38 : decode cX11_countWoven 38 = .ok (.iconst 3, 1) := by decide +kernel
theorem dX11_countWoven_39 : decode cX11_countWoven 39 = .ok (.dup2, 1) := by decide +kernel
theorem dX11_countWoven_40 : decode cX11_countWoven 40 = .ok (.iaload, 1) := by decide +kernel
theorem dX11_countWoven_41 : decode cX11_countWoven 41 = .ok (.iload_n 3, 1) := by decide +kernel
theorem dX11_countWoven_42 : decode cX11_countWoven 42 = .ok (.iadd, 1) := by decide +kernel
theorem dX11_countWoven_43 : decode cX11_countWoven 43 = .ok (.iastore, 1) := by decide +kernel
theorem dX11_countWoven_44 : decode cX11_countWoven 44 = .ok (.iload_n 2, 1) := by decide +kernel
theorem dX11_countWoven_45 : decode cX11_countWoven 45 = .ok (.iconst 3, 1) := by decide +kernel
theorem dX11_countWoven_46 : decode cX11_countWoven 46 = .ok (.if_icmp .ne 13, 3) := by decide +kernel
theorem dX11_countWoven_49 : decode cX11_countWoven 49 = .ok (.aload_n 0, 1) := by decide +kernel
theorem dX11_countWoven_50 : decode cX11_countWoven 50 = .ok (.getfield 68, 3) := by decide +kernel
theorem dX11_countWoven_53 : decode cX11_countWoven 53 = .ok (.iconst 4, 1) := by decide +kernel
theorem dX11_countWoven_54 : decode cX11_countWoven 54 = .ok (.dup2, 1) := by decide +kernel
theorem dX11_countWoven_55 : decode cX11_countWoven 55 = .ok (.iaload, 1) := by decide +kernel
theorem dX11_countWoven_56 : decode cX11_countWoven 56 = .ok (.iload_n 3, 1) := by decide +kernel
theorem dX11_countWoven_57 : decode cX11_countWoven 57 = .ok (.iadd, 1) := by decide +kernel
theorem dX11_countWoven_58 : decode cX11_countWoven 58 = .ok (.iastore, 1) := by decide +kernel
theorem dX11_countWoven_59 : decode cX11_countWoven 59 = .ok (.return_, 1) := by decide +kernel
theorem dX11_waysAhead_0 : decode cX11_waysAhead 0 = .ok (.iconst 1, 1) := by decide +kernel
theorem dX11_waysAhead_1 : decode cX11_waysAhead 1 = .ok (.istore_n 2, 1) := by decide +kernel
theorem dX11_waysAhead_2 : decode cX11_waysAhead 2 = .ok (.iconst 1, 1) := by decide +kernel
theorem dX11_waysAhead_3 : decode cX11_waysAhead 3 = .ok (.istore_n 3, 1) := by decide +kernel
theorem dX11_waysAhead_4 : decode cX11_waysAhead 4 = .ok (.iload_n 3, 1) := by decide +kernel
theorem dX11_waysAhead_5 : decode cX11_waysAhead 5 = .ok (.iload_n 1, 1) := by decide +kernel
theorem dX11_waysAhead_6 : decode cX11_waysAhead 6 = .ok (.if_icmp .gt 23, 3) := by decide +kernel
theorem dX11_waysAhead_9 : decode cX11_waysAhead 9 = .ok (.iload_n 0, 1) := by decide +kernel
theorem dX11_waysAhead_10 : decode cX11_waysAhead 10 = .ok (.ifCond .le 19, 3) := by decide +kernel
theorem dX11_waysAhead_13 : decode cX11_waysAhead 13 = .ok (.iload_n 2, 1) := by decide +kernel
theorem dX11_waysAhead_14 : decode cX11_waysAhead 14 = .ok (.iload_n 0, 1) := by decide +kernel
theorem dX11_waysAhead_15 : decode cX11_waysAhead 15 = .ok (.iconst 1, 1) := by decide +kernel
theorem dX11_waysAhead_16 : decode cX11_waysAhead 16 = .ok (.isub, 1) := by decide +kernel
theorem dX11_waysAhead_17 : decode cX11_waysAhead 17 = .ok (.iload_n 3, 1) := by decide +kernel
theorem dX11_waysAhead_18 : decode cX11_waysAhead 18 = .ok (.iadd, 1) := by decide +kernel
theorem dX11_waysAhead_19 : decode cX11_waysAhead 19 = .ok (.imul, 1) := by decide +kernel
theorem dX11_waysAhead_20 : decode cX11_waysAhead 20 = .ok (.iload_n 3, 1) := by decide +kernel
theorem dX11_waysAhead_21 : decode cX11_waysAhead 21 = .ok (.idiv, 1) := by decide +kernel
theorem dX11_waysAhead_22 : decode cX11_waysAhead 22 = .ok (.istore_n 2, 1) := by decide +kernel
theorem dX11_waysAhead_23 : decode cX11_waysAhead 23 = .ok (.iinc 3 1, 3) := by decide +kernel
theorem dX11_waysAhead_26 : decode cX11_waysAhead 26 = .ok (.goto (-22), 3) := by decide +kernel
theorem dX11_waysAhead_29 : decode cX11_waysAhead 29 = .ok (.iload_n 2, 1) := by decide +kernel
theorem dX11_waysAhead_30 : decode cX11_waysAhead 30 = .ok (.ireturn, 1) := by decide +kernel
theorem dX11_inTen_0 : decode cX11_inTen 0 = .ok (.iload_n 0, 1) := by decide +kernel
theorem dX11_inTen_1 : decode cX11_inTen 1 = .ok (.iload_n 1, 1) := by decide +kernel
theorem dX11_inTen_2 : decode cX11_inTen 2 = .ok (.if_icmp .lt 15, 3) := by decide +kernel
theorem dX11_inTen_5 : decode cX11_inTen 5 = .ok (.iload_n 0, 1) := by decide +kernel
theorem dX11_inTen_6 : decode cX11_inTen 6 = .ok (.iload_n 1, 1) := by decide +kernel
theorem dX11_inTen_7 : decode cX11_inTen 7 = .ok (.bipush 10, 2) := by decide +kernel
theorem dX11_inTen_9 : decode cX11_inTen 9 = .ok (.iadd, 1) := by decide +kernel
theorem dX11_inTen_10 : decode cX11_inTen 10 = .ok (.if_icmp .ge 7, 3) := by decide +kernel
theorem dX11_inTen_13 : decode cX11_inTen 13 = .ok (.iconst 1, 1) := by decide +kernel
theorem dX11_inTen_14 : decode cX11_inTen 14 = .ok (.goto 4, 3) := by decide +kernel
theorem dX11_inTen_17 : decode cX11_inTen 17 = .ok (.iconst 0, 1) := by decide +kernel
theorem dX11_inTen_18 : decode cX11_inTen 18 = .ok (.ireturn, 1) := by decide +kernel
theorem dX11_keysThere_0 : decode cX11_keysThere 0 = .ok (.iconst 0, 1) := by decide +kernel
theorem dX11_keysThere_1 : decode cX11_keysThere 1 = .ok (.istore_n 1, 1) := by decide +kernel
theorem dX11_keysThere_2 : decode cX11_keysThere 2 = .ok (.iconst 0, 1) := by decide +kernel
theorem dX11_keysThere_3 : decode cX11_keysThere 3 = .ok (.istore_n 2, 1) := by decide +kernel
theorem dX11_keysThere_4 : decode cX11_keysThere 4 = .ok (.iload_n 2, 1) := by decide +kernel
theorem dX11_keysThere_5 : decode cX11_keysThere 5 = .ok (.bipush 10, 2) := by decide +kernel
theorem dX11_keysThere_7 : decode cX11_keysThere 7 = .ok (.if_icmp .ge 22, 3) := by decide +kernel
theorem dX11_keysThere_10 : decode cX11_keysThere 10 = .ok (.aload_n 0, 1) := by decide +kernel
theorem dX11_keysThere_11 : decode cX11_keysThere 11 = .ok (.iload_n 2, 1) := by decide +kernel
theorem dX11_keysThere_12 : decode cX11_keysThere 12 = .ok (.iaload, 1) := by decide +kernel
theorem dX11_keysThere_13 : decode cX11_keysThere 13 = .ok (.iconst (-1), 1) := by decide +kernel
theorem dX11_keysThere_14 : decode cX11_keysThere 14 = .ok (.if_icmp .eq 9, 3) := by decide +kernel
theorem dX11_keysThere_17 : decode cX11_keysThere 17 = .ok (.iload_n 1, 1) := by decide +kernel
theorem dX11_keysThere_18 : decode cX11_keysThere 18 = .ok (.iconst 1, 1) := by decide +kernel
theorem dX11_keysThere_19 : decode cX11_keysThere 19 = .ok (.iload_n 2, 1) := by decide +kernel
theorem dX11_keysThere_20 : decode cX11_keysThere 20 = .ok (.ishl, 1) := by decide +kernel
theorem dX11_keysThere_21 : decode cX11_keysThere 21 = .ok (.ior, 1) := by decide +kernel
theorem dX11_keysThere_22 : decode cX11_keysThere 22 = .ok (.istore_n 1, 1) := by decide +kernel
theorem dX11_keysThere_23 : decode cX11_keysThere 23 = .ok (.iinc 2 1, 3) := by decide +kernel
theorem dX11_keysThere_26 : decode cX11_keysThere 26 = .ok (.goto (-22), 3) := by decide +kernel
theorem dX11_keysThere_29 : decode cX11_keysThere 29 = .ok (.iload_n 1, 1) := by decide +kernel
theorem dX11_keysThere_30 : decode cX11_keysThere 30 = .ok (.ireturn, 1) := by decide +kernel
theorem dX11_copyKeys_0 : decode cX11_copyKeys 0 = .ok (.aload_n 0, 1) := by decide +kernel
theorem dX11_copyKeys_1 : decode cX11_copyKeys 1 = .ok (.iconst 0, 1) := by decide +kernel
theorem dX11_copyKeys_2 : decode cX11_copyKeys 2 = .ok (.aload_n 1, 1) := by decide +kernel
theorem dX11_copyKeys_3 : decode cX11_copyKeys 3 = .ok (.iconst 0, 1) := by decide +kernel
theorem dX11_copyKeys_4 : decode cX11_copyKeys 4 = .ok (.bipush 10, 2) := by decide +kernel
theorem dX11_copyKeys_6 : decode cX11_copyKeys 6 = .ok (.invokestatic 347, 3) := by decide +kernel
theorem dX11_copyKeys_9 : decode cX11_copyKeys 9 = .ok (.return_, 1) := by decide +kernel
theorem dX11_sameKeys_0 : decode cX11_sameKeys 0 = .ok (.iconst 0, 1) := by decide +kernel
theorem dX11_sameKeys_1 : decode cX11_sameKeys 1 = .ok (.istore_n 2, 1) := by decide +kernel
theorem dX11_sameKeys_2 : decode cX11_sameKeys 2 = .ok (.iload_n 2, 1) := by decide +kernel
theorem dX11_sameKeys_3 : decode cX11_sameKeys 3 = .ok (.bipush 10, 2) := by decide +kernel
theorem dX11_sameKeys_5 : decode cX11_sameKeys 5 = .ok (.if_icmp .ge 20, 3) := by decide +kernel
theorem dX11_sameKeys_8 : decode cX11_sameKeys 8 = .ok (.aload_n 0, 1) := by decide +kernel
theorem dX11_sameKeys_9 : decode cX11_sameKeys 9 = .ok (.iload_n 2, 1) := by decide +kernel
theorem dX11_sameKeys_10 : decode cX11_sameKeys 10 = .ok (.iaload, 1) := by decide +kernel
theorem dX11_sameKeys_11 : decode cX11_sameKeys 11 = .ok (.aload_n 1, 1) := by decide +kernel
theorem dX11_sameKeys_12 : decode cX11_sameKeys 12 = .ok (.iload_n 2, 1) := by decide +kernel
theorem dX11_sameKeys_13 : decode cX11_sameKeys 13 = .ok (.iaload, 1) := by decide +kernel
theorem dX11_sameKeys_14 : decode cX11_sameKeys 14 = .ok (.if_icmp .eq 5, 3) := by decide +kernel
theorem dX11_sameKeys_17 : decode cX11_sameKeys 17 = .ok (.iconst 0, 1) := by decide +kernel
theorem dX11_sameKeys_18 : decode cX11_sameKeys 18 = .ok (.ireturn, 1) := by decide +kernel
theorem dX11_sameKeys_19 : decode cX11_sameKeys 19 = .ok (.iinc 2 1, 3) := by decide +kernel
theorem dX11_sameKeys_22 : decode cX11_sameKeys 22 = .ok (.goto (-20), 3) := by decide +kernel
theorem dX11_sameKeys_25 : decode cX11_sameKeys 25 = .ok (.iconst 1, 1) := by decide +kernel
theorem dX11_sameKeys_26 : decode cX11_sameKeys 26 = .ok (.ireturn, 1) := by decide +kernel
theorem dX11_hasBit_0 : decode cX11_hasBit 0 = .ok (.iload_n 0, 1) := by decide +kernel
theorem dX11_hasBit_1 : decode cX11_hasBit 1 = .ok (.iload_n 1, 1) := by decide +kernel
theorem dX11_hasBit_2 : decode cX11_hasBit 2 = .ok (.ishr, 1) := by decide +kernel
theorem dX11_hasBit_3 : decode cX11_hasBit 3 = .ok (.iconst 1, 1) := by decide +kernel
theorem dX11_hasBit_4 : decode cX11_hasBit 4 = .ok (.iand, 1) := by decide +kernel
theorem dX11_hasBit_5 : decode cX11_hasBit 5 = .ok (.ifCond .eq 7, 3) := by decide +kernel
theorem dX11_hasBit_8 : decode cX11_hasBit 8 = .ok (.iconst 1, 1) := by decide +kernel
theorem dX11_hasBit_9 : decode cX11_hasBit 9 = .ok (.goto 4, 3) := by decide +kernel
theorem dX11_hasBit_12 : decode cX11_hasBit 12 = .ok (.iconst 0, 1) := by decide +kernel
theorem dX11_hasBit_13 : decode cX11_hasBit 13 = .ok (.ireturn, 1) := by decide +kernel
