/-! decode rows -/
theorem dX12_begins_1 : decode cX12_begins 1 = .ok (.getfield 59, 3) := by decide +kernel
theorem dX12_begins_4 : decode cX12_begins 4 = .ok (.iload_n 1, 1) := by decide +kernel
theorem dX12_begins_5 : decode cX12_begins 5 = .ok (.iload_n 2, 1) := by decide +kernel
theorem dX12_begins_6 : decode cX12_begins 6 = .ok (.iastore, 1) := by decide +kernel
theorem dX12_begins_7 : decode cX12_begins 7 = .ok (.aload_n 0, 1) := by decide +kernel
theorem dX12_begins_8 : decode cX12_begins 8 = .ok (.getfield 62, 3) := by decide +kernel
theorem dX12_begins_11 : decode cX12_begins 11 = .ok (.iload_n 1, 1) := by decide +kernel
theorem dX12_begins_12 : decode cX12_begins 12 = .ok (.iconst 0, 1) := by decide +kernel
theorem dX12_begins_13 : decode cX12_begins 13 = .ok (.iastore, 1) := by decide +kernel
theorem dX12_begins_14 : decode cX12_begins 14 = .ok (.aload_n 0, 1) := by decide +kernel
theorem dX12_begins_15 : decode cX12_begins 15 = .ok (.getfield 65, 3) := by decide +kernel
theorem dX12_begins_18 : decode cX12_begins 18 = .ok (.iload_n 1, 1) := by decide +kernel
theorem dX12_begins_19 : decode cX12_begins 19 = .ok (.iconst 0, 1) := by decide +kernel
theorem dX12_begins_20 : decode cX12_begins 20 = .ok (.iastore, 1) := by decide +kernel
theorem dX12_begins_21 : decode cX12_begins 21 = .ok (.aload_n 0, 1) := by decide +kernel
theorem dX12_begins_22 : decode cX12_begins 22 = .ok (.getfield 68, 3) := by decide +kernel
theorem dX12_begins_25 : decode cX12_begins 25 = .ok (.iload_n 1, 1) := by decide +kernel
theorem dX12_begins_26 : decode cX12_begins 26 = .ok (.aload_n 0, 1) := by decide +kernel
theorem dX12_begins_27 : decode cX12_begins 27 = .ok (.getfield 342, 3) := by decide +kernel
theorem dX12_begins_30 : decode cX12_begins 30 = .ok (.iastore, 1) := by decide +kernel
theorem dX12_begins_31 : decode cX12_begins 31 = .ok (.iconst 0, 1) := by decide +kernel
theorem dX12_begins_32 : decode cX12_begins 32 = .ok (.istore_n 3, 1) := by decide +kernel
theorem dX12_begins_33 : decode cX12_begins 33 = .ok (.iload_n 3, 1) := by decide +kernel
theorem dX12_begins_34 : decode cX12_begins 34 = .ok (.bipush 10, 2) := by decide +kernel
theorem dX12_begins_36 : decode cX12_begins 36 = .ok (.if_icmp .ge 46, 3) := by decide +kernel
theorem dX12_begins_39 : decode cX12_begins 39 = .ok (.aload_n 0, 1) := by decide +kernel
theorem dX12_begins_40 : decode cX12_begins 40 = .ok (.getfield 77, 3) := by decide +kernel
theorem dX12_begins_43 : decode cX12_begins 43 = .ok (.bipush 10, 2) := by decide +kernel
theorem dX12_begins_45 : decode cX12_begins 45 = .ok (.iload_n 1, 1) := by decide +kernel
theorem dX12_begins_46 : decode cX12_begins 46 = .ok (.imul, 1) := by decide +kernel
theorem dX12_begins_47 : decode cX12_begins 47 = .ok (.iload_n 3, 1) := by decide +kernel
theorem dX12_begins_48 : decode cX12_begins 48 = .ok (.iadd, 1) := by decide +kernel
theorem dX12_begins_49 : decode cX12_begins 49 = .ok (.iconst (-1), 1) := by decide +kernel
theorem dX12_begins_50 : decode cX12_begins 50 = .ok (.iastore, 1) := by decide +kernel
theorem dX12_begins_51 : decode cX12_begins 51 = .ok (.aload_n 0, 1) := by decide +kernel
theorem dX12_begins_52 : decode cX12_begins 52 = .ok (.getfield 80, 3) := by decide +kernel
theorem dX12_begins_55 : decode cX12_begins 55 = .ok (.bipush 10, 2) := by decide +kernel
theorem dX12_begins_57 : decode cX12_begins 57 = .ok (.iload_n 1, 1) := by decide +kernel
theorem dX12_begins_58 : decode cX12_begins 58 = .ok (.imul, 1) := by decide +kernel
theorem dX12_begins_59 : decode cX12_begins 59 = .ok (.iload_n 3, 1) := by decide +kernel
theorem dX12_begins_60 : decode cX12_begins 60 = .ok (.iadd, 1) := by decide +kernel
theorem dX12_begins_61 : decode cX12_begins 61 = .ok (.iconst (-1), 1) := by decide +kernel
theorem dX12_begins_62 : decode cX12_begins 62 = .ok (.iastore, 1) := by decide +kernel
theorem dX12_begins_63 : decode cX12_begins 63 = .ok (.aload_n 0, 1) := by decide +kernel
theorem dX12_begins_64 : decode cX12_begins 64 = .ok (.getfield 83, 3) := by decide +kernel
theorem dX12_begins_67 : decode cX12_begins 67 = .ok (.bipush 10, 2) := by decide +kernel
theorem dX12_begins_69 : decode cX12_begins 69 = .ok (.iload_n 1, 1) := by decide +kernel
theorem dX12_begins_70 : decode cX12_begins 70 = .ok (.imul, 1) := by decide +kernel
theorem dX12_begins_71 : decode cX12_begins 71 = .ok (.iload_n 3, 1) := by decide +kernel
theorem dX12_begins_72 : decode cX12_begins 72 = .ok (.iadd, 1) := by decide +kernel
theorem dX12_begins_73 : decode cX12_begins 73 = .ok (.bipush (-2), 2) := by decide +kernel
theorem dX12_begins_75 : decode cX12_begins 75 = .ok (.iastore, 1) := by decide +kernel
theorem dX12_begins_76 : decode cX12_begins 76 = .ok (.iinc 3 1, 3) := by decide +kernel
theorem dX12_begins_79 : decode cX12_begins 79 = .ok (.goto (-46), 3) := by decide +kernel
theorem dX12_begins_82 : decode cX12_begins 82 = .ok (.return_, 1) := by decide +kernel
theorem dX12_isInView_0 : decode cX12_isInView 0 = .ok (.aload_n 0, 1) := by decide +kernel
theorem dX12_isInView_1 : decode cX12_isInView 1 = .ok (.getfield 83, 3) := by decide +kernel
theorem dX12_isInView_4 : decode cX12_isInView 4 = .ok (.bipush 10, 2) := by decide +kernel
theorem dX12_isInView_6 : decode cX12_isInView 6 = .ok (.iload_n 1, 1) := by decide +kernel
theorem dX12_isInView_7 : decode cX12_isInView 7 = .ok (.imul, 1) := by decide +kernel
theorem dX12_isInView_8 : decode cX12_isInView 8 = .ok (.iload_n 2, 1) := by decide +kernel
theorem dX12_isInView_9 : decode cX12_isInView 9 = .ok (.iadd, 1) := by decide +kernel
theorem dX12_isInView_10 : decode cX12_isInView 10 = .ok (.iaload, 1) := by decide +kernel
theorem dX12_isInView_11 : decode cX12_isInView 11 = .ok (.istore_n 3, 1) := by decide +kernel
theorem dX12_isInView_12 : decode cX12_isInView 12 = .ok (.iload_n 3, 1) := by decide +kernel
theorem dX12_isInView_13 : decode cX12_isInView 13 = .ok (.bipush (-2), 2) := by decide +kernel
theorem dX12_isInView_15 : decode cX12_isInView 15 = .ok (.if_icmp .ne 14, 3) := by decide +kernel
theorem dX12_isInView_18 : decode cX12_isInView 18 = .ok (.aload_n 0, 1) := by decide +kernel
theorem dX12_isInView_19 : decode cX12_isInView 19 = .ok (.getfield 336, 3) := by decide +kernel
theorem dX12_isInView_22 : decode cX12_isInView 22 = .ok (.iload_n 2, 1) := by decide +kernel
theorem dX12_isInView_23 : decode cX12_isInView 23 = .ok (.invokestatic 148, 3) := by decide +kernel
theorem dX12_isInView_26 : decode cX12_isInView 26 = .ok (.goto 13, 3) := by decide +kernel
theorem dX12_isInView_29 : decode cX12_isInView 29 = .ok (.iload_n 3, 1) := by decide +kernel
theorem dX12_isInView_30 : decode cX12_isInView 30 = .ok (.iconst (-1), 1) := by decide +kernel
theorem dX12_isInView_31 : decode cX12_isInView 31 = .ok (.if_icmp .eq 7, 3) := by decide +kernel
theorem dX12_isInView_34 : decode cX12_isInView 34 = .ok (.iconst 1, 1) := by decide +kernel
theorem dX12_isInView_35 : decode cX12_isInView 35 = .ok (.goto 4, 3) := by decide +kernel
theorem dX12_isInView_38 : decode cX12_isInView 38 = .ok (.iconst 0, 1) := by decide +kernel
theorem dX12_isInView_39 : decode cX12_isInView 39 = .ok (.ireturn, 1) := by decide +kernel
theorem dX12_view_0 : decode cX12_view 0 = .ok (.aload_n 0, 1) := by decide +kernel
theorem dX12_view_1 : decode cX12_view 1 = .ok (.getfield 83, 3) := by decide +kernel
theorem dX12_view_4 : decode cX12_view 4 = .ok (.bipush 10, 2) := by decide +kernel
theorem dX12_view_6 : decode cX12_view 6 = .ok (.iload_n 1, 1) := by decide +kernel
theorem dX12_view_7 : decode cX12_view 7 = .ok (.imul, 1) := by decide +kernel
theorem dX12_view_8 : decode cX12_view 8 = .ok (.iload_n 2, 1) := by decide +kernel
theorem dX12_view_9 : decode cX12_view 9 = .ok (.iadd, 1) := by decide +kernel
theorem dX12_view_10 : decode cX12_view 10 = .ok (.iaload, 1) := by decide +kernel
theorem dX12_view_11 : decode cX12_view 11 = .ok (.istore_n 3, 1) := by decide +kernel
theorem dX12_view_12 : decode cX12_view 12 = .ok (.aload_n 0, 1) := by decide +kernel
theorem dX12_view_13 : decode cX12_view 13 = .ok (.iload_n 1, 1) := by decide +kernel
theorem dX12_view_14 : decode cX12_view 14 = .ok (.iload_n 2, 1) := by decide +kernel
theorem dX12_view_15 : decode cX12_view 15 = .ok (.invokevirtual 384, 3) := by decide +kernel
theorem dX12_view_18 : decode cX12_view 18 = .ok (.ifCond .ne 7, 3) := by decide +kernel
theorem dX12_view_21 : decode cX12_view 21 = .ok (.iconst 0, 1) := by decide +kernel
theorem dX12_view_22 : decode cX12_view 22 = .ok (.goto 19, 3) := by decide +kernel
theorem dX12_view_25 : decode cX12_view 25 = .ok (.iload_n 3, 1) := by decide +kernel
theorem dX12_view_26 : decode cX12_view 26 = .ok (.bipush (-2), 2) := by decide +kernel
theorem dX12_view_28 : decode cX12_view 28 = .ok (.if_icmp .ne 12, 3) := by decide +kernel
theorem dX12_view_31 : decode cX12_view 31 = .ok (.aload_n 0, 1) := by decide +kernel
theorem dX12_view_32 : decode cX12_view 32 = .ok (.getfield 44, 3) := by decide +kernel
theorem dX12_view_35 : decode cX12_view 35 = .ok (.iload_n 2, 1) := by decide +kernel
theorem dX12_view_36 : decode cX12_view 36 = .ok (.iaload, 1) := by decide +kernel
theorem dX12_view_37 : decode cX12_view 37 = .ok (.goto 4, 3) := by decide +kernel
theorem dX12_view_40 : decode cX12_view 40 = .ok (.iload_n 3, 1) := by decide +kernel
theorem dX12_view_41 : decode cX12_view 41 = .ok (.ireturn, 1) := by decide +kernel
theorem dX12_guards_0 : decode cX12_guards 0 = .ok (.bipush 10, 2) := by decide +kernel
theorem dX12_guards_2 : decode cX12_guards 2 = .ok (.iload_n 1, 1) := by decide +kernel
theorem dX12_guards_3 : decode cX12_guards 3 = .ok (.imul, 1) := by decide +kernel
theorem dX12_guards_4 : decode cX12_guards 4 = .ok (.iload_n 2, 1) := by decide +kernel
theorem dX12_guards_5 : decode cX12_guards 5 = .ok (.iadd, 1) := by decide +kernel
theorem dX12_guards_6 : decode cX12_guards 6 = .ok (.istore_n 3, 1) := by decide +kernel
theorem dX12_guards_7 : decode cX12_guards 7 = .ok (.aload_n 0, 1) := by decide +kernel
theorem dX12_guards_8 : decode cX12_guards 8 = .ok (.getfield 80, 3) := by decide +kernel
theorem dX12_guards_11 : decode cX12_guards 11 = .ok (.iload_n 3, 1) := by decide +kernel
theorem dX12_guards_12 : decode cX12_guards 12 = .ok (.aload_n 0, 1) := by decide +kernel
theorem dX12_guards_13 : decode cX12_guards 13 = .ok (.getfield 80, 3) := by decide +kernel
theorem dX12_guards_16 : decode cX12_guards 16 = .ok (.iload_n 3, 1) := by decide +kernel
theorem dX12_guards_17 : decode cX12_guards 17 = .ok (.iaload, 1) := by decide +kernel
theorem dX12_guards_18 : decode cX12_guards 18 = .ok (.iconst (-1), 1) := by decide +kernel
theorem dX12_guards_19 : decode cX12_guards 19 = .ok (.if_icmp .ne 12, 3) := by decide +kernel
theorem dX12_guards_22 : decode cX12_guards 22 = .ok (.aload_n 0, 1) := by decide +kernel
theorem dX12_guards_23 : decode cX12_guards 23 = .ok (.getfield 50, 3) := by decide +kernel
theorem dX12_guards_26 : decode cX12_guards 26 = .ok (.iload_n 2, 1) := by decide +kernel
theorem dX12_guards_27 : decode cX12_guards 27 = .ok (.iaload, 1) := by decide +kernel
theorem dX12_guards_28 : decode cX12_guards 28 = .ok (.goto 9, 3) := by decide +kernel
theorem dX12_guards_31 : decode cX12_guards 31 = .ok (.aload_n 0, 1) := by decide +kernel
theorem dX12_guards_32 : decode cX12_guards 32 = .ok (.getfield 80, 3) := by decide +kernel
theorem dX12_guards_35 : decode cX12_guards 35 = .ok (.iload_n 3, 1) := by decide +kernel
theorem dX12_guards_36 : decode cX12_guards 36 = .ok (.iaload, 1) := by decide +kernel
theorem dX12_guards_37 : decode cX12_guards 37 = .ok (.iastore, 1) := by decide +kernel
theorem dX12_guards_38 : decode cX12_guards 38 = .ok (.return_, 1) := by decide +kernel
theorem dX12_looks_0 : decode cX12_looks 0 = .ok (.bipush 10, 2) := by decide +kernel
theorem dX12_looks_2 : decode cX12_looks 2 = .ok (.iload_n 1, 1) := by decide +kernel
theorem dX12_looks_3 : decode cX12_looks 3 = .ok (.imul, 1) := by decide +kernel
theorem dX12_looks_4 : decode cX12_looks 4 = .ok (.iload_n 2, 1) := by decide +kernel
theorem dX12_looks_5 : decode cX12_looks 5 = .ok (.iadd, 1) := by decide +kernel
theorem dX12_looks_6 : decode cX12_looks 6 = .ok (.istore_n 3, 1) := by decide +kernel
theorem dX12_looks_7 : decode cX12_looks 7 = .ok (.aload_n 0, 1) := by decide +kernel
theorem dX12_looks_8 : decode cX12_looks 8 = .ok (.getfield 83, 3) := by decide +kernel
theorem dX12_looks_11 : decode cX12_looks 11 = .ok (.iload_n 3, 1) := by decide +kernel
theorem dX12_looks_12 : decode cX12_looks 12 = .ok (.iaload, 1) := by decide +kernel
theorem dX12_looks_13 : decode cX12_looks 13 = .ok (.bipush (-2), 2) := by decide +kernel
theorem dX12_looks_15 : decode cX12_looks 15 = .ok (.if_icmp .ne 48, 3) := by decide +kernel
theorem dX12_looks_18 : decode cX12_looks 18 = .ok (.aload_n 0, 1) := by decide +kernel
theorem dX12_looks_19 : decode cX12_looks 19 = .ok (.getfield 336, 3) := by decide +kernel
theorem dX12_looks_22 : decode cX12_looks 22 = .ok (.iload_n 2, 1) := by decide +kernel
theorem dX12_looks_23 : decode cX12_looks 23 = .ok (.invokestatic 148, 3) := by decide +kernel
theorem dX12_looks_26 : decode cX12_looks 26 = .ok (.ifCond .eq 37, 3) := by decide +kernel
theorem dX12_looks_29 : decode cX12_looks 29 = .ok (.aload_n 0, 1) := by decide +kernel
theorem dX12_looks_30 : decode cX12_looks 30 = .ok (.getfield 77, 3) := by decide +kernel
theorem dX12_looks_33 : decode cX12_looks 33 = .ok (.iload_n 3, 1) := by decide +kernel
theorem dX12_looks_34 : decode cX12_looks 34 = .ok (.aload_n 0, 1) := by decide +kernel
theorem dX12_looks_35 : decode cX12_looks 35 = .ok (.getfield 77, 3) := by decide +kernel
theorem dX12_looks_38 : decode cX12_looks 38 = .ok (.iload_n 3, 1) := by decide +kernel
theorem dX12_looks_39 : decode cX12_looks 39 = .ok (.iaload, 1) := by decide +kernel
theorem dX12_looks_40 : decode cX12_looks 40 = .ok (.iconst (-1), 1) := by decide +kernel
theorem dX12_looks_41 : decode cX12_looks 41 = .ok (.if_icmp .ne 12, 3) := by decide +kernel
theorem dX12_looks_44 : decode cX12_looks 44 = .ok (.aload_n 0, 1) := by decide +kernel
theorem dX12_looks_45 : decode cX12_looks 45 = .ok (.getfield 47, 3) := by decide +kernel
theorem dX12_looks_48 : decode cX12_looks 48 = .ok (.iload_n 2, 1) := by decide +kernel
theorem dX12_looks_49 : decode cX12_looks 49 = .ok (.iaload, 1) := by decide +kernel
theorem dX12_looks_50 : decode cX12_looks 50 = .ok (.goto 9, 3) := by decide +kernel
theorem dX12_looks_53 : decode cX12_looks 53 = .ok (.aload_n 0, 1) := by decide +kernel
theorem dX12_looks_54 : decode cX12_looks 54 = .ok (.getfield 77, 3) := by decide +kernel
theorem dX12_looks_57 : decode cX12_looks 57 = .ok (.iload_n 3, 1) := by decide +kernel
theorem dX12_looks_58 : decode cX12_looks 58 = .ok (.iaload, 1) := by decide +kernel
theorem dX12_looks_59 : decode cX12_looks 59 = .ok (.iastore, 1) := by decide +kernel
theorem dX12_looks_60 : decode cX12_looks 60 = .ok (.goto 24, 3) := by decide +kernel
theorem dX12_looks_63 : decode cX12_looks 63 = .ok (.aload_n 0, 1) := by decide +kernel
theorem dX12_looks_64 : decode cX12_looks 64 = .ok (.getfield 83, 3) := by decide +kernel
theorem dX12_looks_67 : decode cX12_looks 67 = .ok (.iload_n 3, 1) := by decide +kernel
theorem dX12_looks_68 : decode cX12_looks 68 = .ok (.iaload, 1) := by decide +kernel
theorem dX12_looks_69 : decode cX12_looks 69 = .ok (.bipush (-2), 2) := by decide +kernel
theorem dX12_looks_71 : decode cX12_looks 71 = .ok (.if_icmp .ne 13, 3) := by decide +kernel
theorem dX12_looks_74 : decode cX12_looks 74 = .ok (.aload_n 0, 1) := by decide +kernel
theorem dX12_looks_75 : decode cX12_looks 75 = .ok (.iload_n 1, 1) := by decide +kernel
theorem dX12_looks_76 : decode cX12_looks 76 = .ok (.aload_n 0, 1) := by decide +kernel
theorem dX12_looks_77 : decode cX12_looks 77 = .ok (.iload_n 2, 1) := by decide +kernel
theorem dX12_looks_78 : decode cX12_looks 78 = .ok (.invokevirtual 369, 3) := by decide +kernel
theorem dX12_looks_81 : decode cX12_looks 81 = .ok (.invokevirtual 387, 3) := by decide +kernel
theorem dX12_looks_84 : decode cX12_looks 84 = .ok (.aload_n 0, 1) := by decide +kernel
theorem dX12_looks_85 : decode cX12_looks 85 = .ok (.getfield 65, 3) := by decide +kernel
theorem dX12_looks_88 : decode cX12_looks 88 = .ok (.iload_n 1, 1) := by decide +kernel
theorem dX12_looks_89 : decode cX12_looks 89 = .ok (.aload_n 0, 1) := by decide +kernel
theorem dX12_looks_90 : decode cX12_looks 90 = .ok (.getfield 65, 3) := by decide +kernel
theorem dX12_looks_93 : decode cX12_looks 93 = .ok (.iload_n 1, 1) := by decide +kernel
theorem dX12_looks_94 : decode cX12_looks 94 = .ok (.iaload, 1) := by decide +kernel
theorem dX12_looks_95 : decode cX12_looks 95 = .ok (.aload_n 0, 1) := by decide +kernel
theorem dX12_looks_96 : decode cX12_looks 96 = .ok (.iload_n 1, 1) := by decide +kernel
theorem dX12_looks_97 : decode cX12_looks 97 = .ok (.iload_n 2, 1) := by decide +kernel
theorem dX12_looks_98 : decode cX12_looks 98 = .ok (.invokevirtual 390, 3) := by decide +kernel
theorem dX12_looks_101 : decode cX12_looks 101 = .ok (.iadd, 1) := by decide +kernel
theorem dX12_looks_102 : decode cX12_looks 102 = .ok (.bipush 100, 2) := by decide +kernel
theorem dX12_looks_104 : decode cX12_looks 104 = .ok (.irem, 1) := by decide +kernel
theorem dX12_looks_105 : decode cX12_looks 105 = .ok (.iastore, 1) := by decide +kernel
theorem dX12_looks_106 : decode cX12_looks 106 = .ok (.return_, 1) := by decide +kernel
theorem dX12_scans_0 : decode cX12_scans 0 = .ok (.aload_n 0, 1) := by decide +kernel
theorem dX12_scans_1 : decode cX12_scans 1 = .ok (.iload_n 2, 1) := by decide +kernel
theorem dX12_scans_2 : decode cX12_scans 2 = .ok (.invokevirtual 369, 3) := by decide +kernel
theorem dX12_scans_5 : decode cX12_scans 5 = .ok (.istore 4, 2) := by decide +kernel
theorem dX12_scans_7 : decode cX12_scans 7 = .ok (.iload 4, 2) := by decide +kernel
theorem dX12_scans_9 : decode cX12_scans 9 = .ok (.aload_n 0, 1) := by decide +kernel
theorem dX12_scans_10 : decode cX12_scans 10 = .ok (.iload_n 3, 1) := by decide +kernel
theorem dX12_scans_11 : decode cX12_scans 11 = .ok (.invokevirtual 369, 3) := by decide +kernel
theorem dX12_scans_14 : decode cX12_scans 14 = .ok (.if_icmp .gt 16, 3) := by decide +kernel
theorem dX12_scans_17 : decode cX12_scans 17 = .ok (.aload_n 0, 1) := by decide +kernel
theorem dX12_scans_18 : decode cX12_scans 18 = .ok (.iload_n 1, 1) := by decide +kernel
theorem dX12_scans_19 : decode cX12_scans 19 = .ok (.iload 4, 2) := by decide +kernel
theorem dX12_scans_21 : decode cX12_scans 21 = .ok (.invokevirtual 387, 3) := by decide +kernel
theorem dX12_scans_24 : decode cX12_scans 24 = .ok (.iinc 4 1, 3) := by decide +kernel
theorem dX12_scans_27 : decode cX12_scans 27 = .ok (.goto (-20), 3) := by decide +kernel
theorem dX12_scans_30 : decode cX12_scans 30 = .ok (.iload_n 2, 1) := by decide +kernel
theorem dX12_scans_31 : decode cX12_scans 31 = .ok (.istore 4, 2) := by decide +kernel
theorem dX12_scans_33 : decode cX12_scans 33 = .ok (.iload 4, 2) := by decide +kernel
theorem dX12_scans_35 : decode cX12_scans 35 = .ok (.iload_n 3, 1) := by decide +kernel
theorem dX12_scans_36 : decode cX12_scans 36 = .ok (.if_icmp .gt 26, 3) := by decide +kernel
theorem dX12_scans_39 : decode cX12_scans 39 = .ok (.aload_n 0, 1) := by decide +kernel
theorem dX12_scans_40 : decode cX12_scans 40 = .ok (.iload_n 1, 1) := by decide +kernel
theorem dX12_scans_41 : decode cX12_scans 41 = .ok (.iload 4, 2) := by decide +kernel
theorem dX12_scans_43 : decode cX12_scans 43 = .ok (.invokevirtual 384, 3) := by decide +kernel
theorem dX12_scans_46 : decode cX12_scans 46 = .ok (.ifCond .eq 10, 3) := by decide +kernel
theorem dX12_scans_49 : decode cX12_scans 49 = .ok (.aload_n 0, 1) := by decide +kernel
theorem dX12_scans_50 : decode cX12_scans 50 = .ok (.iload_n 1, 1) := by decide +kernel
theorem dX12_scans_51 : decode cX12_scans 51 = .ok (.iload 4, 2) := by decide +kernel
theorem dX12_scans_53 : decode cX12_scans 53 = .ok (.invokevirtual 393, 3) := by decide +kernel
theorem dX12_scans_56 : decode cX12_scans 56 = .ok (.iinc 4 1, 3) := by decide +kernel
theorem dX12_scans_59 : decode cX12_scans 59 = .ok (.goto (-26), 3) := by decide +kernel
theorem dX12_scans_62 : decode cX12_scans 62 = .ok (.return_, 1) := by decide +kernel
theorem dX12_stepDoes_0 : decode cX12_stepDoes 0 = .ok (.bipush 10, 2) := by decide +kernel
theorem dX12_stepDoes_2 : decode cX12_stepDoes 2 = .ok (.iload_n 1, 1) := by decide +kernel
theorem dX12_stepDoes_3 : decode cX12_stepDoes 3 = .ok (.imul, 1) := by decide +kernel
theorem dX12_stepDoes_4 : decode cX12_stepDoes 4 = .ok (.iload_n 3, 1) := by decide +kernel
theorem dX12_stepDoes_5 : decode cX12_stepDoes 5 = .ok (.iadd, 1) := by decide +kernel
theorem dX12_stepDoes_6 : decode cX12_stepDoes 6 = .ok (.istore 5, 2) := by decide +kernel
theorem dX12_stepDoes_8 : decode cX12_stepDoes 8 = .ok (.iload_n 2, 1) := by decide +kernel
theorem dX12_stepDoes_9 : decode cX12_stepDoes 9 = .ok (.tableswitch 111 0 4 #[35, 44, 55, 71, 83], 35) := by decide +kernel
theorem dX12_stepDoes_44 : decode cX12_stepDoes 44 = .ok (.aload_n 0, 1) := by decide +kernel
theorem dX12_stepDoes_45 : decode cX12_stepDoes 45 = .ok (.iload_n 1, 1) := by decide +kernel
theorem dX12_stepDoes_46 : decode cX12_stepDoes 46 = .ok (.iload_n 3, 1) := by decide +kernel
theorem dX12_stepDoes_47 : decode cX12_stepDoes 47 = .ok (.invokevirtual 393, 3) := by decide +kernel
theorem dX12_stepDoes_50 : decode cX12_stepDoes 50 = .ok (.goto 78, 3) := by decide +kernel
theorem dX12_stepDoes_53 : decode cX12_stepDoes 53 = .ok (.aload_n 0, 1) := by decide +kernel
theorem dX12_stepDoes_54 : decode cX12_stepDoes 54 = .ok (.getfield 83, 3) := by decide +kernel
theorem dX12_stepDoes_57 : decode cX12_stepDoes 57 = .ok (.iload 5, 2) := by decide +kernel
theorem dX12_stepDoes_59 : decode cX12_stepDoes 59 = .ok (.iconst (-1), 1) := by decide +kernel
theorem dX12_stepDoes_60 : decode cX12_stepDoes 60 = .ok (.iastore, 1) := by decide +kernel
theorem dX12_stepDoes_61 : decode cX12_stepDoes 61 = .ok (.goto 67, 3) := by decide +kernel
theorem dX12_stepDoes_64 : decode cX12_stepDoes 64 = .ok (.aload_n 0, 1) := by decide +kernel
theorem dX12_stepDoes_65 : decode cX12_stepDoes 65 = .ok (.getfield 83, 3) := by decide +kernel
theorem dX12_stepDoes_68 : decode cX12_stepDoes 68 = .ok (.iload 5, 2) := by decide +kernel
theorem dX12_stepDoes_70 : decode cX12_stepDoes 70 = .ok (.aload_n 0, 1) := by decide +kernel
theorem dX12_stepDoes_71 : decode cX12_stepDoes 71 = .ok (.getfield 65, 3) := by decide +kernel
theorem dX12_stepDoes_74 : decode cX12_stepDoes 74 = .ok (.iload_n 1, 1) := by decide +kernel
theorem dX12_stepDoes_75 : decode cX12_stepDoes 75 = .ok (.iaload, 1) := by decide +kernel
theorem dX12_stepDoes_76 : decode cX12_stepDoes 76 = .ok (.iastore, 1) := by decide +kernel
theorem dX12_stepDoes_77 : decode cX12_stepDoes 77 = .ok (.goto 51, 3) := by decide +kernel
theorem dX12_stepDoes_80 : decode cX12_stepDoes 80 = .ok (.aload_n 0, 1) := by decide +kernel
theorem dX12_stepDoes_81 : decode cX12_stepDoes 81 = .ok (.getfield 83, 3) := by decide +kernel
theorem dX12_stepDoes_84 : decode cX12_stepDoes 84 = .ok (.iload 5, 2) := by decide +kernel
theorem dX12_stepDoes_86 : decode cX12_stepDoes 86 = .ok (.iload 4, 2) := by decide +kernel
theorem dX12_stepDoes_88 : decode cX12_stepDoes 88 = .ok (.iastore, 1) := by decide +kernel
theorem dX12_stepDoes_89 : decode cX12_stepDoes 89 = .ok (.goto 39, 3) := by decide +kernel
theorem dX12_stepDoes_92 : decode cX12_stepDoes 92 = .ok (.aload_n 0, 1) := by decide +kernel
theorem dX12_stepDoes_93 : decode cX12_stepDoes 93 = .ok (.iload_n 1, 1) := by decide +kernel
theorem dX12_stepDoes_94 : decode cX12_stepDoes 94 = .ok (.iload_n 3, 1) := by decide +kernel
theorem dX12_stepDoes_95 : decode cX12_stepDoes 95 = .ok (.invokevirtual 393, 3) := by decide +kernel
theorem dX12_stepDoes_98 : decode cX12_stepDoes 98 = .ok (.aload_n 0, 1) := by decide +kernel
theorem dX12_stepDoes_99 : decode cX12_stepDoes 99 = .ok (.getfield 83, 3) := by decide +kernel
theorem dX12_stepDoes_102 : decode cX12_stepDoes 102 = .ok (.iload 5, 2) := by decide +kernel
theorem dX12_stepDoes_104 : decode cX12_stepDoes 104 = .ok (.aload_n 0, 1) := by decide +kernel
theorem dX12_stepDoes_105 : decode cX12_stepDoes 105 = .ok (.iload_n 1, 1) := by decide +kernel
theorem dX12_stepDoes_106 : decode cX12_stepDoes 106 = .ok (.iload_n 3, 1) := by decide +kernel
theorem dX12_stepDoes_107 : decode cX12_stepDoes 107 = .ok (.invokevirtual 390, 3) := by decide +kernel
theorem dX12_stepDoes_110 : decode cX12_stepDoes 110 = .ok (.iload 4, 2) := by decide +kernel
theorem dX12_stepDoes_112 : decode cX12_stepDoes 112 = .ok (.iadd, 1) := by decide +kernel
theorem dX12_stepDoes_113 : decode cX12_stepDoes 113 = .ok (.bipush 100, 2) := by decide +kernel
theorem dX12_stepDoes_115 : decode cX12_stepDoes 115 = .ok (.irem, 1) := by decide +kernel
theorem dX12_stepDoes_116 : decode cX12_stepDoes 116 = .ok (.iastore, 1) := by decide +kernel
theorem dX12_stepDoes_117 : decode cX12_stepDoes 117 = .ok (.goto 11, 3) := by decide +kernel
theorem dX12_stepDoes_120 : decode cX12_stepDoes 120 = .ok (.aload_n 0, 1) := by decide +kernel
theorem dX12_stepDoes_121 : decode cX12_stepDoes 121 = .ok (.iload_n 1, 1) := by decide +kernel
theorem dX12_stepDoes_122 : decode cX12_stepDoes 122 = .ok (.iload_n 3, 1) := by decide +kernel
theorem dX12_stepDoes_123 : decode cX12_stepDoes 123 = .ok (.iload 4, 2) := by decide +kernel
theorem dX12_stepDoes_125 : decode cX12_stepDoes 125 = .ok (.invokevirtual 396, 3) := by decide +kernel
theorem dX12_stepDoes_128 : decode cX12_stepDoes 128 = .ok (.return_, 1) := by decide +kernel
theorem dX12_steps_0 : decode cX12_steps 0 = .ok (.aload_n 0, 1) := by decide +kernel
theorem dX12_steps_1 : decode cX12_steps 1 = .ok (.getfield 59, 3) := by decide +kernel
theorem dX12_steps_4 : decode cX12_steps 4 = .ok (.iload_n 1, 1) := by decide +kernel
theorem dX12_steps_5 : decode cX12_steps 5 = .ok (.iaload, 1) := by decide +kernel
theorem dX12_steps_6 : decode cX12_steps 6 = .ok (.istore_n 2, 1) := by decide +kernel
theorem dX12_steps_7 : decode cX12_steps 7 = .ok (.iload_n 2, 1) := by decide +kernel
theorem dX12_steps_8 : decode cX12_steps 8 = .ok (.iconst (-1), 1) := by decide +kernel
theorem dX12_steps_9 : decode cX12_steps 9 = .ok (.if_icmp .eq 17, 3) := by decide +kernel
theorem dX12_steps_12 : decode cX12_steps 12 = .ok (.aload_n 0, 1) := by decide +kernel
theorem dX12_steps_13 : decode cX12_steps 13 = .ok (.getfield 62, 3) := by decide +kernel
theorem dX12_steps_16 : decode cX12_steps 16 = .ok (.iload_n 1, 1) := by decide +kernel
theorem dX12_steps_17 : decode cX12_steps 17 = .ok (.iaload, 1) := by decide +kernel
theorem dX12_steps_18 : decode cX12_steps 18 = .ok (.aload_n 0, 1) := by decide +kernel
theorem dX12_steps_19 : decode cX12_steps 19 = .ok (.iload_n 2, 1) := by decide +kernel
theorem dX12_steps_20 : decode cX12_steps 20 = .ok (.invokevirtual 381, 3) := by decide +kernel
theorem dX12_steps_23 : decode cX12_steps 23 = .ok (.if_icmp .ne 5, 3) := by decide +kernel
theorem dX12_steps_26 : decode cX12_steps 26 = .ok (.iconst 0, 1) := by decide +kernel
theorem dX12_steps_27 : decode cX12_steps 27 = .ok (.ireturn, 1) := by decide +kernel
theorem dX12_steps_28 : decode cX12_steps 28 = .ok (.iconst 1, 1) := by decide +kernel
theorem dX12_steps_29 : decode cX12_steps 29 = .ok (.iconst 3, 1) := by decide +kernel
theorem dX12_steps_30 : decode cX12_steps 30 = .ok (.aload_n 0, 1) := by decide +kernel
theorem dX12_steps_31 : decode cX12_steps 31 = .ok (.getfield 62, 3) := by decide +kernel
theorem dX12_steps_34 : decode cX12_steps 34 = .ok (.iload_n 1, 1) := by decide +kernel
theorem dX12_steps_35 : decode cX12_steps 35 = .ok (.iaload, 1) := by decide +kernel
theorem dX12_steps_36 : decode cX12_steps 36 = .ok (.imul, 1) := by decide +kernel
theorem dX12_steps_37 : decode cX12_steps 37 = .ok (.iadd, 1) := by decide +kernel
theorem dX12_steps_38 : decode cX12_steps 38 = .ok (.istore_n 3, 1) := by decide +kernel
theorem dX12_steps_39 : decode cX12_steps 39 = .ok (.aload_n 0, 1) := by decide +kernel
theorem dX12_steps_40 : decode cX12_steps 40 = .ok (.iload_n 1, 1) := by decide +kernel
theorem dX12_steps_41 : decode cX12_steps 41 = .ok (.aload_n 0, 1) := by decide +kernel
theorem dX12_steps_42 : decode cX12_steps 42 = .ok (.iload_n 2, 1) := by decide +kernel
theorem dX12_steps_43 : decode cX12_steps 43 = .ok (.iload_n 3, 1) := by decide +kernel
theorem dX12_steps_44 : decode cX12_steps 44 = .ok (.invokevirtual 320, 3) := by decide +kernel
theorem dX12_steps_47 : decode cX12_steps 47 = .ok (.aload_n 0, 1) := by decide +kernel
theorem dX12_steps_48 : decode cX12_steps 48 = .ok (.iload_n 2, 1) := by decide +kernel
theorem dX12_steps_49 : decode cX12_steps 49 = .ok (.iload_n 3, 1) := by decide +kernel
theorem dX12_steps_50 : decode cX12_steps 50 = .ok (.iconst 1, 1) := by decide +kernel
theorem dX12_steps_51 : decode cX12_steps 51 = .ok (.iadd, 1) := by decide +kernel
theorem dX12_steps_52 : decode cX12_steps 52 = .ok (.invokevirtual 320, 3) := by decide +kernel
theorem dX12_steps_55 : decode cX12_steps 55 = .ok (.aload_n 0, 1) := by decide +kernel
theorem dX12_steps_56 : decode cX12_steps 56 = .ok (.iload_n 2, 1) := by decide +kernel
theorem dX12_steps_57 : decode cX12_steps 57 = .ok (.iload_n 3, 1) := by decide +kernel
theorem dX12_steps_58 : decode cX12_steps 58 = .ok (.iconst 2, 1) := by decide +kernel
theorem dX12_steps_59 : decode cX12_steps 59 = .ok (.iadd, 1) := by decide +kernel
theorem dX12_steps_60 : decode cX12_steps 60 = .ok (.invokevirtual 320, 3) := by decide +kernel
theorem dX12_steps_63 : decode cX12_steps 63 = .ok (.invokevirtual 399, 3) := by decide +kernel
theorem dX12_steps_66 : decode cX12_steps 66 = .ok (.aload_n 0, 1) := by decide +kernel
theorem dX12_steps_67 : decode cX12_steps 67 = .ok (.getfield 62, 3) := by decide +kernel
theorem dX12_steps_70 : decode cX12_steps 70 = .ok (.iload_n 1, 1) := by decide +kernel
theorem dX12_steps_71 : decode cX12_steps 71 = .ok (.dup2, 1) := by decide +kernel
theorem dX12_steps_72 : decode cX12_steps 72 = .ok (.iaload, 1) := by decide +kernel
theorem dX12_steps_73 : decode cX12_steps 73 = .ok (.iconst 1, 1) := by decide +kernel
theorem dX12_steps_74 : decode cX12_steps 74 = .ok (.iadd, 1) := by decide +kernel
theorem dX12_steps_75 : decode cX12_steps 75 = .ok (.iastore, 1) := by decide +kernel
theorem dX12_steps_76 : decode cX12_steps 76 = .ok (.iconst 1, 1) := by decide +kernel
theorem dX12_steps_77 : decode cX12_steps 77 = .ok (.ireturn, 1) := by decide +kernel
theorem dX12_checks_0 : decode cX12_checks 0 = .ok (.aload_n 0, 1) := by decide +kernel
theorem dX12_checks_1 : decode cX12_checks 1 = .ok (.iconst 1, 1) := by decide +kernel
theorem dX12_checks_2 : decode cX12_checks 2 = .ok (.putfield 403, 3) := by decide +kernel
theorem dX12_checks_5 : decode cX12_checks 5 = .ok (.aload_n 0, 1) := by decide +kernel
theorem dX12_checks_6 : decode cX12_checks 6 = .ok (.iconst (-1), 1) := by decide +kernel
theorem dX12_checks_7 : decode cX12_checks 7 = .ok (.putfield 406, 3) := by decide +kernel
theorem dX12_checks_10 : decode cX12_checks 10 = .ok (.aload_n 0, 1) := by decide +kernel
theorem dX12_checks_11 : decode cX12_checks 11 = .ok (.iconst (-1), 1) := by decide +kernel
theorem dX12_checks_12 : decode cX12_checks 12 = .ok (.putfield 409, 3) := by decide +kernel
theorem dX12_checks_15 : decode cX12_checks 15 = .ok (.aload_n 0, 1) := by decide +kernel
theorem dX12_checks_16 : decode cX12_checks 16 = .ok (.iconst (-1), 1) := by decide +kernel
theorem dX12_checks_17 : decode cX12_checks 17 = .ok (.putfield 412, 3) := by decide +kernel
theorem dX12_checks_20 : decode cX12_checks 20 = .ok (.iconst 0, 1) := by decide +kernel
theorem dX12_checks_21 : decode cX12_checks 21 = .ok (.istore_n 2, 1) := by decide +kernel
theorem dX12_checks_22 : decode cX12_checks 22 = .ok (.iload_n 2, 1) := by decide +kernel
theorem dX12_checks_23 : decode cX12_checks 23 = .ok (.bipush 10, 2) := by decide +kernel
theorem dX12_checks_25 : decode cX12_checks 25 = .ok (.if_icmp .ge 75, 3) := by decide +kernel
theorem dX12_checks_28 : decode cX12_checks 28 = .ok (.aload_n 0, 1) := by decide +kernel
theorem dX12_checks_29 : decode cX12_checks 29 = .ok (.getfield 403, 3) := by decide +kernel
theorem dX12_checks_32 : decode cX12_checks 32 = .ok (.iconst 1, 1) := by decide +kernel
theorem dX12_checks_33 : decode cX12_checks 33 = .ok (.if_icmp .ne 67, 3) := by decide +kernel
theorem dX12_checks_36 : decode cX12_checks 36 = .ok (.aload_n 0, 1) := by decide +kernel
theorem dX12_checks_37 : decode cX12_checks 37 = .ok (.getfield 77, 3) := by decide +kernel
theorem dX12_checks_40 : decode cX12_checks 40 = .ok (.bipush 10, 2) := by decide +kernel
theorem dX12_checks_42 : decode cX12_checks 42 = .ok (.iload_n 1, 1) := by decide +kernel
theorem dX12_checks_43 : decode cX12_checks 43 = .ok (.imul, 1) := by decide +kernel
theorem dX12_checks_44 : decode cX12_checks 44 = .ok (.iload_n 2, 1) := by decide +kernel
theorem dX12_checks_45 : decode cX12_checks 45 = .ok (.iadd, 1) := by decide +kernel
theorem dX12_checks_46 : decode cX12_checks 46 = .ok (.iaload, 1) := by decide +kernel
theorem dX12_checks_47 : decode cX12_checks 47 = .ok (.istore_n 3, 1) := by decide +kernel
theorem dX12_checks_48 : decode cX12_checks 48 = .ok (.iload_n 3, 1) := by decide +kernel
theorem dX12_checks_49 : decode cX12_checks 49 = .ok (.iconst (-1), 1) := by decide +kernel
theorem dX12_checks_50 : decode cX12_checks 50 = .ok (.if_icmp .eq 44, 3) := by decide +kernel
theorem dX12_checks_53 : decode cX12_checks 53 = .ok (.aload_n 0, 1) := by decide +kernel
theorem dX12_checks_54 : decode cX12_checks 54 = .ok (.getfield 336, 3) := by decide +kernel
theorem dX12_checks_57 : decode cX12_checks 57 = .ok (.iload_n 2, 1) := by decide +kernel
theorem dX12_checks_58 : decode cX12_checks 58 = .ok (.invokestatic 148, 3) := by decide +kernel
theorem dX12_checks_61 : decode cX12_checks 61 = .ok (.ifCond .eq 13, 3) := by decide +kernel
theorem dX12_checks_64 : decode cX12_checks 64 = .ok (.aload_n 0, 1) := by decide +kernel
theorem dX12_checks_65 : decode cX12_checks 65 = .ok (.getfield 47, 3) := by decide +kernel
theorem dX12_checks_68 : decode cX12_checks 68 = .ok (.iload_n 2, 1) := by decide +kernel
theorem dX12_checks_69 : decode cX12_checks 69 = .ok (.iaload, 1) := by decide +kernel
theorem dX12_checks_70 : decode cX12_checks 70 = .ok (.iload_n 3, 1) := by decide +kernel
theorem dX12_checks_71 : decode cX12_checks 71 = .ok (.if_icmp .eq 23, 3) := by decide +kernel
theorem dX12_checks_74 : decode cX12_checks 74 = .ok (.aload_n 0, 1) := by decide +kernel
theorem dX12_checks_75 : decode cX12_checks 75 = .ok (.iconst 2, 1) := by decide +kernel
theorem dX12_checks_76 : decode cX12_checks 76 = .ok (.putfield 403, 3) := by decide +kernel
theorem dX12_checks_79 : decode cX12_checks 79 = .ok (.aload_n 0, 1) := by decide +kernel
theorem dX12_checks_80 : decode cX12_checks 80 = .ok (.iload_n 2, 1) := by decide +kernel
theorem dX12_checks_81 : decode cX12_checks 81 = .ok (.putfield 406, 3) := by decide +kernel
theorem dX12_checks_84 : decode cX12_checks 84 = .ok (.aload_n 0, 1) := by decide +kernel
theorem dX12_checks_85 : decode cX12_checks 85 = .ok (.aload_n 0, 1) := by decide +kernel
theorem dX12_checks_86 : decode cX12_checks 86 = .ok (.getfield 53, 3) := by decide +kernel
theorem dX12_checks_89 : decode cX12_checks 89 = .ok (.iload_n 2, 1) := by decide +kernel
theorem dX12_checks_90 : decode cX12_checks 90 = .ok (.iaload, 1) := by decide +kernel
theorem dX12_checks_91 : decode cX12_checks 91 = .ok (.putfield 409, 3) := by decide +kernel
theorem dX12_checks_94 : decode cX12_checks 94 = .ok (.iinc 2 1, 3) := by decide +kernel
theorem dX12_checks_97 : decode cX12_checks 97 = .ok (.goto (-75), 3) := by decide +kernel
theorem dX12_checks_100 : decode cX12_checks 100 = .ok (.iconst 0, 1) := by decide +kernel
theorem dX12_checks_101 : decode cX12_checks 101 = .ok (.istore_n 2, 1) := by decide +kernel
theorem dX12_checks_102 : decode cX12_checks 102 = .ok (.iload_n 2, 1) := by decide +kernel
theorem dX12_checks_103 : decode cX12_checks 103 = .ok (.aload_n 0, 1) := by decide +kernel
theorem dX12_checks_104 : decode cX12_checks 104 = .ok (.getfield 372, 3) := by decide +kernel
theorem dX12_checks_107 : decode cX12_checks 107 = .ok (.if_icmp .ge 64, 3) := by decide +kernel
theorem dX12_checks_110 : decode cX12_checks 110 = .ok (.aload_n 0, 1) := by decide +kernel
theorem dX12_checks_111 : decode cX12_checks 111 = .ok (.getfield 403, 3) := by decide +kernel
theorem dX12_checks_114 : decode cX12_checks 114 = .ok (.iconst 1, 1) := by decide +kernel
theorem dX12_checks_115 : decode cX12_checks 115 = .ok (.if_icmp .ne 56, 3) := by decide +kernel
theorem dX12_checks_118 : decode cX12_checks 118 = .ok (.aload_n 0, 1) := by decide +kernel
theorem dX12_checks_119 : decode cX12_checks 119 = .ok (.getfield 80, 3) := by decide +kernel
theorem dX12_checks_122 : decode cX12_checks 122 = .ok (.bipush 10, 2) := by decide +kernel
theorem dX12_checks_124 : decode cX12_checks 124 = .ok (.iload_n 1, 1) := by decide +kernel
theorem dX12_checks_125 : decode cX12_checks 125 = .ok (.imul, 1) := by decide +kernel
theorem dX12_checks_126 : decode cX12_checks 126 = .ok (.iload_n 2, 1) := by decide +kernel
theorem dX12_checks_127 : decode cX12_checks 127 = .ok (.iadd, 1) := by decide +kernel
theorem dX12_checks_128 : decode cX12_checks 128 = .ok (.iaload, 1) := by decide +kernel
theorem dX12_checks_129 : decode cX12_checks 129 = .ok (.istore_n 3, 1) := by decide +kernel
theorem dX12_checks_130 : decode cX12_checks 130 = .ok (.iload_n 3, 1) := by decide +kernel
theorem dX12_checks_131 : decode cX12_checks 131 = .ok (.iconst (-1), 1) := by decide +kernel
theorem dX12_checks_132 : decode cX12_checks 132 = .ok (.if_icmp .eq 33, 3) := by decide +kernel
theorem dX12_checks_135 : decode cX12_checks 135 = .ok (.aload_n 0, 1) := by decide +kernel
theorem dX12_checks_136 : decode cX12_checks 136 = .ok (.getfield 50, 3) := by decide +kernel
theorem dX12_checks_139 : decode cX12_checks 139 = .ok (.iload_n 2, 1) := by decide +kernel
theorem dX12_checks_140 : decode cX12_checks 140 = .ok (.iaload, 1) := by decide +kernel
theorem dX12_checks_141 : decode cX12_checks 141 = .ok (.iload_n 3, 1) := by decide +kernel
theorem dX12_checks_142 : decode cX12_checks 142 = .ok (.if_icmp .eq 23, 3) := by decide +kernel
theorem dX12_checks_145 : decode cX12_checks 145 = .ok (.aload_n 0, 1) := by decide +kernel
theorem dX12_checks_146 : decode cX12_checks 146 = .ok (.iconst 3, 1) := by decide +kernel
theorem dX12_checks_147 : decode cX12_checks 147 = .ok (.putfield 403, 3) := by decide +kernel
theorem dX12_checks_150 : decode cX12_checks 150 = .ok (.aload_n 0, 1) := by decide +kernel
theorem dX12_checks_151 : decode cX12_checks 151 = .ok (.iload_n 2, 1) := by decide +kernel
theorem dX12_checks_152 : decode cX12_checks 152 = .ok (.putfield 406, 3) := by decide +kernel
theorem dX12_checks_155 : decode cX12_checks 155 = .ok (.aload_n 0, 1) := by decide +kernel
theorem dX12_checks_156 : decode cX12_checks 156 = .ok (.aload_n 0, 1) := by decide +kernel
theorem dX12_checks_157 : decode cX12_checks 157 = .ok (.getfield 56, 3) := by decide +kernel
theorem dX12_checks_160 : decode cX12_checks 160 = .ok (.iload_n 2, 1) := by decide +kernel
theorem dX12_checks_161 : decode cX12_checks 161 = .ok (.iaload, 1) := by decide +kernel
theorem dX12_checks_162 : decode cX12_checks 162 = .ok (.putfield 409, 3) := by decide +kernel
theorem dX12_checks_165 : decode cX12_checks 165 = .ok (.iinc 2 1, 3) := by decide +kernel
theorem dX12_checks_168 : decode cX12_checks 168 = .ok (.goto (-66), 3) := by decide +kernel
theorem dX12_checks_171 : decode cX12_checks 171 = .ok (.return_, 1) := by decide +kernel
theorem dX12_stampFor_0 : decode cX12_stampFor 0 = .ok (.aload_n 0, 1) := by decide +kernel
theorem dX12_stampFor_1 : decode cX12_stampFor 1 = .ok (.getfield 71, 3) := by decide +kernel
theorem dX12_stampFor_4 : decode cX12_stampFor 4 = .ok (.iload_n 1, 1) := by decide +kernel
theorem dX12_stampFor_5 : decode cX12_stampFor 5 = .ok (.iaload, 1) := by decide +kernel
theorem dX12_stampFor_6 : decode cX12_stampFor 6 = .ok (.istore_n 2, 1) := by decide +kernel
theorem dX12_stampFor_7 : decode cX12_stampFor 7 = .ok (.iconst 0, 1) := by decide +kernel
theorem dX12_stampFor_8 : decode cX12_stampFor 8 = .ok (.istore_n 3, 1) := by decide +kernel
theorem dX12_stampFor_9 : decode cX12_stampFor 9 = .ok (.iload_n 3, 1) := by decide +kernel
theorem dX12_stampFor_10 : decode cX12_stampFor 10 = .ok (.bipush 10, 2) := by decide +kernel
theorem dX12_stampFor_12 : decode cX12_stampFor 12 = .ok (.if_icmp .ge 56, 3) := by decide +kernel
theorem dX12_stampFor_15 : decode cX12_stampFor 15 = .ok (.iload_n 2, 1) := by decide +kernel
theorem dX12_stampFor_16 : decode cX12_stampFor 16 = .ok (.aload_n 0, 1) := by decide +kernel
theorem dX12_stampFor_17 : decode cX12_stampFor 17 = .ok (.getfield 77, 3) := by decide +kernel
theorem dX12_stampFor_20 : decode cX12_stampFor 20 = .ok (.bipush 10, 2) := by decide +kernel
theorem dX12_stampFor_22 : decode cX12_stampFor 22 = .ok (.iload_n 1, 1) := by decide +kernel
theorem dX12_stampFor_23 : decode cX12_stampFor 23 = .ok (.imul, 1) := by decide +kernel
theorem dX12_stampFor_24 : decode cX12_stampFor 24 = .ok (.iload_n 3, 1) := by decide +kernel
theorem dX12_stampFor_25 : decode cX12_stampFor 25 = .ok (.iadd, 1) := by decide +kernel
theorem dX12_stampFor_26 : decode cX12_stampFor 26 = .ok (.iaload, 1) := by decide +kernel
theorem dX12_stampFor_27 : decode cX12_stampFor 27 = .ok (.invokestatic 415, 3) := by decide +kernel
theorem dX12_stampFor_30 : decode cX12_stampFor 30 = .ok (.istore_n 2, 1) := by decide +kernel
theorem dX12_stampFor_31 : decode cX12_stampFor 31 = .ok (.aload_n 0, 1) := by decide +kernel
theorem dX12_stampFor_32 : decode cX12_stampFor 32 = .ok (.getfield 83, 3) := by decide +kernel
theorem dX12_stampFor_35 : decode cX12_stampFor 35 = .ok (.bipush 10, 2) := by decide +kernel
theorem dX12_stampFor_37 : decode cX12_stampFor 37 = .ok (.iload_n 1, 1) := by decide +kernel
theorem dX12_stampFor_38 : decode cX12_stampFor 38 = .ok (.imul, 1) := by decide +kernel
theorem dX12_stampFor_39 : decode cX12_stampFor 39 = .ok (.iload_n 3, 1) := by decide +kernel
theorem dX12_stampFor_40 : decode cX12_stampFor 40 = .ok (.iadd, 1) := by decide +kernel
theorem dX12_stampFor_41 : decode cX12_stampFor 41 = .ok (.iaload, 1) := by decide +kernel
theorem dX12_stampFor_42 : decode cX12_stampFor 42 = .ok (.bipush (-2), 2) := by decide +kernel
theorem dX12_stampFor_44 : decode cX12_stampFor 44 = .ok (.if_icmp .ne 7, 3) := by decide +kernel
theorem dX12_stampFor_47 : decode cX12_stampFor 47 = .ok (.iload_n 2, 1) := by decide +kernel
theorem dX12_stampFor_48 : decode cX12_stampFor 48 = .ok (.goto 13, 3) := by decide +kernel
theorem dX12_stampFor_51 : decode cX12_stampFor 51 = .ok (.iload_n 2, 1) := by decide +kernel
theorem dX12_stampFor_52 : decode cX12_stampFor 52 = .ok (.aload_n 0, 1) := by decide +kernel
theorem dX12_stampFor_53 : decode cX12_stampFor 53 = .ok (.getfield 47, 3) := by decide +kernel
theorem dX12_stampFor_56 : decode cX12_stampFor 56 = .ok (.iload_n 3, 1) := by decide +kernel
theorem dX12_stampFor_57 : decode cX12_stampFor 57 = .ok (.iaload, 1) := by decide +kernel
theorem dX12_stampFor_58 : decode cX12_stampFor 58 = .ok (.invokestatic 415, 3) := by decide +kernel
theorem dX12_stampFor_61 : decode cX12_stampFor 61 = .ok (.istore_n 2, 1) := by decide +kernel
theorem dX12_stampFor_62 : decode cX12_stampFor 62 = .ok (.iinc 3 1, 3) := by decide +kernel
theorem dX12_stampFor_65 : decode cX12_stampFor 65 = .ok (.goto (-56), 3) := by decide +kernel
theorem dX12_stampFor_68 : decode cX12_stampFor 68 = .ok (.iload_n 2, 1) := by decide +kernel
theorem dX12_stampFor_69 : decode cX12_stampFor 69 = .ok (.iconst 1, 1) := by decide +kernel
theorem dX12_stampFor_70 : decode cX12_stampFor 70 = .ok (.iadd, 1) := by decide +kernel
theorem dX12_stampFor_71 : decode cX12_stampFor 71 = .ok (.bipush 100, 2) := by decide +kernel
theorem dX12_stampFor_73 : decode cX12_stampFor 73 = .ok (.aload_n 0, 1) := by decide +kernel
theorem dX12_stampFor_74 : decode cX12_stampFor 74 = .ok (.getfield 342, 3) := by decide +kernel
theorem dX12_stampFor_77 : decode cX12_stampFor 77 = .ok (.imul, 1) := by decide +kernel
theorem dX12_stampFor_78 : decode cX12_stampFor 78 = .ok (.iconst 1, 1) := by decide +kernel
theorem dX12_stampFor_79 : decode cX12_stampFor 79 = .ok (.iadd, 1) := by decide +kernel
theorem dX12_stampFor_80 : decode cX12_stampFor 80 = .ok (.invokestatic 415, 3) := by decide +kernel
theorem dX12_stampFor_83 : decode cX12_stampFor 83 = .ok (.ireturn, 1) := by decide +kernel
theorem dX12_writes_0 : decode cX12_writes 0 = .ok (.aload_n 0, 1) := by decide +kernel
theorem dX12_writes_1 : decode cX12_writes 1 = .ok (.getfield 336, 3) := by decide +kernel
theorem dX12_writes_4 : decode cX12_writes 4 = .ok (.iload_n 1, 1) := by decide +kernel
theorem dX12_writes_5 : decode cX12_writes 5 = .ok (.invokestatic 148, 3) := by decide +kernel
theorem dX12_writes_8 : decode cX12_writes 8 = .ok (.iload_n 2, 1) := by decide +kernel
theorem dX12_writes_9 : decode cX12_writes 9 = .ok (.iconst (-1), 1) := by decide +kernel
theorem dX12_writes_10 : decode cX12_writes 10 = .ok (.if_icmp .eq 7, 3) := by decide +kernel
theorem dX12_writes_13 : decode cX12_writes 13 = .ok (.iconst 1, 1) := by decide +kernel
theorem dX12_writes_14 : decode cX12_writes 14 = .ok (.goto 4, 3) := by decide +kernel
theorem dX12_writes_17 : decode cX12_writes 17 = .ok (.iconst 0, 1) := by decide +kernel
theorem dX12_writes_18 : decode cX12_writes 18 = .ok (.if_icmp .eq 47, 3) := by decide +kernel
theorem dX12_writes_21 : decode cX12_writes 21 = .ok (.aload_n 0, 1) := by decide +kernel
theorem dX12_writes_22 : decode cX12_writes 22 = .ok (.getfield 50, 3) := by decide +kernel
theorem dX12_writes_25 : decode cX12_writes 25 = .ok (.aload_n 0, 1) := by decide +kernel
theorem dX12_writes_26 : decode cX12_writes 26 = .ok (.iload_n 1, 1) := by decide +kernel
theorem dX12_writes_27 : decode cX12_writes 27 = .ok (.invokevirtual 369, 3) := by decide +kernel
theorem dX12_writes_30 : decode cX12_writes 30 = .ok (.dup2, 1) := by decide +kernel
theorem dX12_writes_31 : decode cX12_writes 31 = .ok (.iaload, 1) := by decide +kernel
theorem dX12_writes_32 : decode cX12_writes 32 = .ok (.iconst 1, 1) := by decide +kernel
theorem dX12_writes_33 : decode cX12_writes 33 = .ok (.iadd, 1) := by decide +kernel
theorem dX12_writes_34 : decode cX12_writes 34 = .ok (.iastore, 1) := by decide +kernel
theorem dX12_writes_35 : decode cX12_writes 35 = .ok (.aload_n 0, 1) := by decide +kernel
theorem dX12_writes_36 : decode cX12_writes 36 = .ok (.getfield 56, 3) := by decide +kernel
theorem dX12_writes_39 : decode cX12_writes 39 = .ok (.aload_n 0, 1) := by decide +kernel
theorem dX12_writes_40 : decode cX12_writes 40 = .ok (.iload_n 1, 1) := by decide +kernel
theorem dX12_writes_41 : decode cX12_writes 41 = .ok (.invokevirtual 369, 3) := by decide +kernel
theorem dX12_writes_44 : decode cX12_writes 44 = .ok (.iload_n 3, 1) := by decide +kernel
theorem dX12_writes_45 : decode cX12_writes 45 = .ok (.iastore, 1) := by decide +kernel
theorem dX12_writes_46 : decode cX12_writes 46 = .ok (.aload_n 0, 1) := by decide +kernel
theorem dX12_writes_47 : decode cX12_writes 47 = .ok (.getfield 107, 3) := by decide +kernel
theorem dX12_writes_50 : decode cX12_writes 50 = .ok (.aload_n 0, 1) := by decide +kernel
theorem dX12_writes_51 : decode cX12_writes 51 = .ok (.getfield 345, 3) := by decide +kernel
theorem dX12_writes_54 : decode cX12_writes 54 = .ok (.dup2, 1) := by decide +kernel
theorem dX12_writes_55 : decode cX12_writes 55 = .ok (.iaload, 1) := by decide +kernel
theorem dX12_writes_56 : decode cX12_writes 56 = .ok (.iconst 1, 1) := by decide +kernel
theorem dX12_writes_57 : decode cX12_writes 57 = .ok (.aload_n 0, 1) := by decide +kernel
theorem dX12_writes_58 : decode cX12_writes 58 = .ok (.iload_n 1, 1) := by decide +kernel
theorem dX12_writes_59 : decode cX12_writes 59 = .ok (.invokevirtual 369, 3) := by decide +kernel
theorem dX12_writes_62 : decode cX12_writes 62 = .ok (.ishl, 1) := by decide +kernel
theorem dX12_writes_63 : decode cX12_writes 63 = .ok (.ior, 1) := by decide +kernel
theorem dX12_writes_64 : decode cX12_writes 64 = .ok (.iastore, 1) := by decide +kernel
theorem dX12_writes_65 : decode cX12_writes 65 = .ok (.aload_n 0, 1) := by decide +kernel
theorem dX12_writes_66 : decode cX12_writes 66 = .ok (.iload_n 2, 1) := by decide +kernel
theorem dX12_writes_67 : decode cX12_writes 67 = .ok (.iconst (-1), 1) := by decide +kernel
theorem dX12_writes_68 : decode cX12_writes 68 = .ok (.if_icmp .ne 16, 3) := by decide +kernel
theorem dX12_writes_71 : decode cX12_writes 71 = .ok (.aload_n 0, 1) := by decide +kernel
theorem dX12_writes_72 : decode cX12_writes 72 = .ok (.getfield 336, 3) := by decide +kernel
theorem dX12_writes_75 : decode cX12_writes 75 = .ok (.iconst 1, 1) := by decide +kernel
theorem dX12_writes_76 : decode cX12_writes 76 = .ok (.iload_n 1, 1) := by decide +kernel
theorem dX12_writes_77 : decode cX12_writes 77 = .ok (.ishl, 1) := by decide +kernel
theorem dX12_writes_78 : decode cX12_writes 78 = .ok (.iconst (-1), 1) := by decide +kernel
theorem dX12_writes_79 : decode cX12_writes 79 = .ok (.ixor, 1) := by decide +kernel
theorem dX12_writes_80 : decode cX12_writes 80 = .ok (.iand, 1) := by decide +kernel
theorem dX12_writes_81 : decode cX12_writes 81 = .ok (.goto 11, 3) := by decide +kernel
theorem dX12_writes_84 : decode cX12_writes 84 = .ok (.aload_n 0, 1) := by decide +kernel
theorem dX12_writes_85 : decode cX12_writes 85 = .ok (.getfield 336, 3) := by decide +kernel
theorem dX12_writes_88 : decode cX12_writes 88 = .ok (.iconst 1, 1) := by decide +kernel
theorem dX12_writes_89 : decode cX12_writes 89 = .ok (.iload_n 1, 1) := by decide +kernel
theorem dX12_writes_90 : decode cX12_writes 90 = .ok (.ishl, 1) := by decide +kernel
theorem dX12_writes_91 : decode cX12_writes 91 = .ok (.ior, 1) := by decide +kernel
theorem dX12_writes_92 : decode cX12_writes 92 = .ok (.putfield 336, 3) := by decide +kernel
theorem dX12_writes_95 : decode cX12_writes 95 = .ok (.aload_n 0, 1) := by decide +kernel
theorem dX12_writes_96 : decode cX12_writes 96 = .ok (.getfield 44, 3) := by decide +kernel
theorem dX12_writes_99 : decode cX12_writes 99 = .ok (.iload_n 1, 1) := by decide +kernel
theorem dX12_writes_100 : decode cX12_writes 100 = .ok (.iload_n 2, 1) := by decide +kernel
theorem dX12_writes_101 : decode cX12_writes 101 = .ok (.iconst (-1), 1) := by decide +kernel
theorem dX12_writes_102 : decode cX12_writes 102 = .ok (.if_icmp .ne 7, 3) := by decide +kernel
theorem dX12_writes_105 : decode cX12_writes 105 = .ok (.iconst 0, 1) := by decide +kernel
theorem dX12_writes_106 : decode cX12_writes 106 = .ok (.goto 4, 3) := by decide +kernel
theorem dX12_writes_109 : decode cX12_writes 109 = .ok (.iload_n 2, 1) := by decide +kernel
theorem dX12_writes_110 : decode cX12_writes 110 = .ok (.iastore, 1) := by decide +kernel
theorem dX12_writes_111 : decode cX12_writes 111 = .ok (.aload_n 0, 1) := by decide +kernel
theorem dX12_writes_112 : decode cX12_writes 112 = .ok (.getfield 47, 3) := by decide +kernel
theorem dX12_writes_115 : decode cX12_writes 115 = .ok (.iload_n 1, 1) := by decide +kernel
theorem dX12_writes_116 : decode cX12_writes 116 = .ok (.aload_n 0, 1) := by decide +kernel
theorem dX12_writes_117 : decode cX12_writes 117 = .ok (.getfield 412, 3) := by decide +kernel
theorem dX12_writes_120 : decode cX12_writes 120 = .ok (.iastore, 1) := by decide +kernel
theorem dX12_writes_121 : decode cX12_writes 121 = .ok (.aload_n 0, 1) := by decide +kernel
theorem dX12_writes_122 : decode cX12_writes 122 = .ok (.getfield 53, 3) := by decide +kernel
theorem dX12_writes_125 : decode cX12_writes 125 = .ok (.iload_n 1, 1) := by decide +kernel
theorem dX12_writes_126 : decode cX12_writes 126 = .ok (.iload_n 3, 1) := by decide +kernel
theorem dX12_writes_127 : decode cX12_writes 127 = .ok (.iastore, 1) := by decide +kernel
theorem dX12_writes_128 : decode cX12_writes 128 = .ok (.return_, 1) := by decide +kernel
theorem dX12_commits_0 : decode cX12_commits 0 = .ok (.aload_n 0, 1) := by decide +kernel
theorem dX12_commits_1 : decode cX12_commits 1 = .ok (.aload_n 0, 1) := by decide +kernel
theorem dX12_commits_2 : decode cX12_commits 2 = .ok (.iload_n 1, 1) := by decide +kernel
theorem dX12_commits_3 : decode cX12_commits 3 = .ok (.invokevirtual 418, 3) := by decide +kernel
theorem dX12_commits_6 : decode cX12_commits 6 = .ok (.putfield 412, 3) := by decide +kernel
theorem dX12_commits_9 : decode cX12_commits 9 = .ok (.aload_n 0, 1) := by decide +kernel
theorem dX12_commits_10 : decode cX12_commits 10 = .ok (.getfield 86, 3) := by decide +kernel
theorem dX12_commits_13 : decode cX12_commits 13 = .ok (.aload_n 0, 1) := by decide +kernel
theorem dX12_commits_14 : decode cX12_commits 14 = .ok (.getfield 345, 3) := by decide +kernel
theorem dX12_commits_17 : decode cX12_commits 17 = .ok (.iload_n 1, 1) := by decide +kernel
theorem dX12_commits_18 : decode cX12_commits 18 = .ok (.iastore, 1) := by decide +kernel
theorem dX12_commits_19 : decode cX12_commits 19 = .ok (.aload_n 0, 1) := by decide +kernel
theorem dX12_commits_20 : decode cX12_commits 20 = .ok (.getfield 89, 3) := by decide +kernel
theorem dX12_commits_23 : decode cX12_commits 23 = .ok (.aload_n 0, 1) := by decide +kernel
theorem dX12_commits_24 : decode cX12_commits 24 = .ok (.getfield 345, 3) := by decide +kernel
theorem dX12_commits_27 : decode cX12_commits 27 = .ok (.aload_n 0, 1) := by decide +kernel
theorem dX12_commits_28 : decode cX12_commits 28 = .ok (.getfield 59, 3) := by decide +kernel
theorem dX12_commits_31 : decode cX12_commits 31 = .ok (.iload_n 1, 1) := by decide +kernel
theorem dX12_commits_32 : decode cX12_commits 32 = .ok (.iaload, 1) := by decide +kernel
theorem dX12_commits_33 : decode cX12_commits 33 = .ok (.iastore, 1) := by decide +kernel
theorem dX12_commits_34 : decode cX12_commits 34 = .ok (.aload_n 0, 1) := by decide +kernel
theorem dX12_commits_35 : decode cX12_commits 35 = .ok (.getfield 92, 3) := by decide +kernel
theorem dX12_commits_38 : decode cX12_commits 38 = .ok (.aload_n 0, 1) := by decide +kernel
theorem dX12_commits_39 : decode cX12_commits 39 = .ok (.getfield 345, 3) := by decide +kernel
theorem dX12_commits_42 : decode cX12_commits 42 = .ok (.aload_n 0, 1) := by decide +kernel
theorem dX12_commits_43 : decode cX12_commits 43 = .ok (.getfield 342, 3) := by decide +kernel
theorem dX12_commits_46 : decode cX12_commits 46 = .ok (.iastore, 1) := by decide +kernel
theorem dX12_commits_47 : decode cX12_commits 47 = .ok (.aload_n 0, 1) := by decide +kernel
theorem dX12_commits_48 : decode cX12_commits 48 = .ok (.getfield 95, 3) := by decide +kernel
theorem dX12_commits_51 : decode cX12_commits 51 = .ok (.aload_n 0, 1) := by decide +kernel
theorem dX12_commits_52 : decode cX12_commits 52 = .ok (.getfield 345, 3) := by decide +kernel
theorem dX12_commits_55 : decode cX12_commits 55 = .ok (.aload_n 0, 1) := by decide +kernel
theorem dX12_commits_56 : decode cX12_commits 56 = .ok (.getfield 412, 3) := by decide +kernel
theorem dX12_commits_59 : decode cX12_commits 59 = .ok (.iastore, 1) := by decide +kernel
theorem dX12_commits_60 : decode cX12_commits 60 = .ok (.aload_n 0, 1) := by decide +kernel
theorem dX12_commits_61 : decode cX12_commits 61 = .ok (.getfield 98, 3) := by decide +kernel
theorem dX12_commits_64 : decode cX12_commits 64 = .ok (.aload_n 0, 1) := by decide +kernel
theorem dX12_commits_65 : decode cX12_commits 65 = .ok (.getfield 345, 3) := by decide +kernel
theorem dX12_commits_68 : decode cX12_commits 68 = .ok (.iconst 0, 1) := by decide +kernel
theorem dX12_commits_69 : decode cX12_commits 69 = .ok (.iastore, 1) := by decide +kernel
theorem dX12_commits_70 : decode cX12_commits 70 = .ok (.aload_n 0, 1) := by decide +kernel
theorem dX12_commits_71 : decode cX12_commits 71 = .ok (.getfield 101, 3) := by decide +kernel
theorem dX12_commits_74 : decode cX12_commits 74 = .ok (.aload_n 0, 1) := by decide +kernel
theorem dX12_commits_75 : decode cX12_commits 75 = .ok (.getfield 345, 3) := by decide +kernel
theorem dX12_commits_78 : decode cX12_commits 78 = .ok (.iconst 0, 1) := by decide +kernel
theorem dX12_commits_79 : decode cX12_commits 79 = .ok (.iastore, 1) := by decide +kernel
theorem dX12_commits_80 : decode cX12_commits 80 = .ok (.aload_n 0, 1) := by decide +kernel
theorem dX12_commits_81 : decode cX12_commits 81 = .ok (.getfield 104, 3) := by decide +kernel
theorem dX12_commits_84 : decode cX12_commits 84 = .ok (.aload_n 0, 1) := by decide +kernel
theorem dX12_commits_85 : decode cX12_commits 85 = .ok (.getfield 345, 3) := by decide +kernel
theorem dX12_commits_88 : decode cX12_commits 88 = .ok (.iconst 0, 1) := by decide +kernel
theorem dX12_commits_89 : decode cX12_commits 89 = .ok (.iastore, 1) := by decide +kernel
theorem dX12_commits_90 : decode cX12_commits 90 = .ok (.aload_n 0, 1) := by decide +kernel
theorem dX12_commits_91 : decode cX12_commits 91 = .ok (.getfield 107, 3) := by decide +kernel
theorem dX12_commits_94 : decode cX12_commits 94 = .ok (.aload_n 0, 1) := by decide +kernel
theorem dX12_commits_95 : decode cX12_commits 95 = .ok (.getfield 345, 3) := by decide +kernel
theorem dX12_commits_98 : decode cX12_commits 98 = .ok (.iconst 0, 1) := by decide +kernel
theorem dX12_commits_99 : decode cX12_commits 99 = .ok (.iastore, 1) := by decide +kernel
theorem dX12_commits_100 : decode cX12_commits 100 = .ok (.iconst 0, 1) := by decide +kernel
theorem dX12_commits_101 : decode cX12_commits 101 = .ok (.istore_n 3, 1) := by decide +kernel
theorem dX12_commits_102 : decode cX12_commits 102 = .ok (.iload_n 3, 1) := by decide +kernel
theorem dX12_commits_103 : decode cX12_commits 103 = .ok (.bipush 10, 2) := by decide +kernel
theorem dX12_commits_105 : decode cX12_commits 105 = .ok (.if_icmp .ge 123, 3) := by decide +kernel
theorem dX12_commits_108 : decode cX12_commits 108 = .ok (.bipush 10, 2) := by decide +kernel
theorem dX12_commits_110 : decode cX12_commits 110 = .ok (.iload_n 1, 1) := by decide +kernel
theorem dX12_commits_111 : decode cX12_commits 111 = .ok (.imul, 1) := by decide +kernel
theorem dX12_commits_112 : decode cX12_commits 112 = .ok (.iload_n 3, 1) := by decide +kernel
theorem dX12_commits_113 : decode cX12_commits 113 = .ok (.iadd, 1) := by decide +kernel
theorem dX12_commits_114 : decode cX12_commits 114 = .ok (.istore 4, 2) := by decide +kernel
theorem dX12_commits_116 : decode cX12_commits 116 = .ok (.aload_n 0, 1) := by decide +kernel
theorem dX12_commits_117 : decode cX12_commits 117 = .ok (.getfield 110, 3) := by decide +kernel
theorem dX12_commits_120 : decode cX12_commits 120 = .ok (.bipush 10, 2) := by decide +kernel
theorem dX12_commits_122 : decode cX12_commits 122 = .ok (.aload_n 0, 1) := by decide +kernel
theorem dX12_commits_123 : decode cX12_commits 123 = .ok (.getfield 345, 3) := by decide +kernel
theorem dX12_commits_126 : decode cX12_commits 126 = .ok (.imul, 1) := by decide +kernel
theorem dX12_commits_127 : decode cX12_commits 127 = .ok (.iload_n 3, 1) := by decide +kernel
theorem dX12_commits_128 : decode cX12_commits 128 = .ok (.iadd, 1) := by decide +kernel
theorem dX12_commits_129 : decode cX12_commits 129 = .ok (.aload_n 0, 1) := by decide +kernel
theorem dX12_commits_130 : decode cX12_commits 130 = .ok (.getfield 83, 3) := by decide +kernel
theorem dX12_commits_133 : decode cX12_commits 133 = .ok (.iload 4, 2) := by decide +kernel
theorem dX12_commits_135 : decode cX12_commits 135 = .ok (.iaload, 1) := by decide +kernel
theorem dX12_commits_136 : decode cX12_commits 136 = .ok (.iastore, 1) := by decide +kernel
theorem dX12_commits_137 : decode cX12_commits 137 = .ok (.aload_n 0, 1) := by decide +kernel
theorem dX12_commits_138 : decode cX12_commits 138 = .ok (.getfield 101, 3) := by decide +kernel
theorem dX12_commits_141 : decode cX12_commits 141 = .ok (.aload_n 0, 1) := by decide +kernel
theorem dX12_commits_142 : decode cX12_commits 142 = .ok (.getfield 345, 3) := by decide +kernel
theorem dX12_commits_145 : decode cX12_commits 145 = .ok (.dup2, 1) := by decide +kernel
theorem dX12_commits_146 : decode cX12_commits 146 = .ok (.iaload, 1) := by decide +kernel
theorem dX12_commits_147 : decode cX12_commits 147 = .ok (.aload_n 0, 1) := by decide +kernel
theorem dX12_commits_148 : decode cX12_commits 148 = .ok (.getfield 77, 3) := by decide +kernel
theorem dX12_commits_151 : decode cX12_commits 151 = .ok (.iload 4, 2) := by decide +kernel
theorem dX12_commits_153 : decode cX12_commits 153 = .ok (.iaload, 1) := by decide +kernel
theorem dX12_commits_154 : decode cX12_commits 154 = .ok (.iconst (-1), 1) := by decide +kernel
theorem dX12_commits_155 : decode cX12_commits 155 = .ok (.if_icmp .ne 7, 3) := by decide +kernel
theorem dX12_commits_158 : decode cX12_commits 158 = .ok (.iconst 0, 1) := by decide +kernel
theorem dX12_commits_159 : decode cX12_commits 159 = .ok (.goto 6, 3) := by decide +kernel
theorem dX12_commits_162 : decode cX12_commits 162 = .ok (.iconst 1, 1) := by decide +kernel
theorem dX12_commits_163 : decode cX12_commits 163 = .ok (.iload_n 3, 1) := by decide +kernel
theorem dX12_commits_164 : decode cX12_commits 164 = .ok (.ishl, 1) := by decide +kernel
theorem dX12_commits_165 : decode cX12_commits 165 = .ok (.ior, 1) := by decide +kernel
theorem dX12_commits_166 : decode cX12_commits 166 = .ok (.iastore, 1) := by decide +kernel
theorem dX12_commits_167 : decode cX12_commits 167 = .ok (.aload_n 0, 1) := by decide +kernel
theorem dX12_commits_168 : decode cX12_commits 168 = .ok (.getfield 104, 3) := by decide +kernel
theorem dX12_commits_171 : decode cX12_commits 171 = .ok (.aload_n 0, 1) := by decide +kernel
theorem dX12_commits_172 : decode cX12_commits 172 = .ok (.getfield 345, 3) := by decide +kernel
theorem dX12_commits_175 : decode cX12_commits 175 = .ok (.dup2, 1) := by decide +kernel
theorem dX12_commits_176 : decode cX12_commits 176 = .ok (.iaload, 1) := by decide +kernel
theorem dX12_commits_177 : decode cX12_commits 177 = .ok (.aload_n 0, 1) := by decide +kernel
theorem dX12_commits_178 : decode cX12_commits 178 = .ok (.getfield 80, 3) := by decide +kernel
theorem dX12_commits_181 : decode cX12_commits 181 = .ok (.iload 4, 2) := by decide +kernel
theorem dX12_commits_183 : decode cX12_commits 183 = .ok (.iaload, 1) := by decide +kernel
theorem dX12_commits_184 : decode cX12_commits 184 = .ok (.iconst (-1), 1) := by decide +kernel
theorem dX12_commits_185 : decode cX12_commits 185 = .ok (.if_icmp .ne 7, 3) := by decide +kernel
theorem dX12_commits_188 : decode cX12_commits 188 = .ok (.iconst 0, 1) := by decide +kernel
theorem dX12_commits_189 : decode cX12_commits 189 = .ok (.goto 6, 3) := by decide +kernel
theorem dX12_commits_192 : decode cX12_commits 192 = .ok (.iconst 1, 1) := by decide +kernel
theorem dX12_commits_193 : decode cX12_commits 193 = .ok (.iload_n 3, 1) := by decide +kernel
theorem dX12_commits_194 : decode cX12_commits 194 = .ok (.ishl, 1) := by decide +kernel
theorem dX12_commits_195 : decode cX12_commits 195 = .ok (.ior, 1) := by decide +kernel
theorem dX12_commits_196 : decode cX12_commits 196 = .ok (.iastore, 1) := by decide +kernel
theorem dX12_commits_197 : decode cX12_commits 197 = .ok (.aload_n 0, 1) := by decide +kernel
theorem dX12_commits_198 : decode cX12_commits 198 = .ok (.getfield 83, 3) := by decide +kernel
theorem dX12_commits_201 : decode cX12_commits 201 = .ok (.iload 4, 2) := by decide +kernel
theorem dX12_commits_203 : decode cX12_commits 203 = .ok (.iaload, 1) := by decide +kernel
theorem dX12_commits_204 : decode cX12_commits 204 = .ok (.bipush (-2), 2) := by decide +kernel
theorem dX12_commits_206 : decode cX12_commits 206 = .ok (.if_icmp .eq 16, 3) := by decide +kernel
theorem dX12_commits_209 : decode cX12_commits 209 = .ok (.aload_n 0, 1) := by decide +kernel
theorem dX12_commits_210 : decode cX12_commits 210 = .ok (.iload_n 3, 1) := by decide +kernel
theorem dX12_commits_211 : decode cX12_commits 211 = .ok (.aload_n 0, 1) := by decide +kernel
theorem dX12_commits_212 : decode cX12_commits 212 = .ok (.getfield 83, 3) := by decide +kernel
theorem dX12_commits_215 : decode cX12_commits 215 = .ok (.iload 4, 2) := by decide +kernel
theorem dX12_commits_217 : decode cX12_commits 217 = .ok (.iaload, 1) := by decide +kernel
theorem dX12_commits_218 : decode cX12_commits 218 = .ok (.iload_n 2, 1) := by decide +kernel
theorem dX12_commits_219 : decode cX12_commits 219 = .ok (.invokevirtual 421, 3) := by decide +kernel
theorem dX12_commits_222 : decode cX12_commits 222 = .ok (.iinc 3 1, 3) := by decide +kernel
theorem dX12_commits_225 : decode cX12_commits 225 = .ok (.goto (-123), 3) := by decide +kernel
theorem dX12_commits_228 : decode cX12_commits 228 = .ok (.aload_n 0, 1) := by decide +kernel
theorem dX12_commits_229 : decode cX12_commits 229 = .ok (.dup, 1) := by decide +kernel
theorem dX12_commits_230 : decode cX12_commits 230 = .ok (.getfield 345, 3) := by decide +kernel
theorem dX12_commits_233 : decode cX12_commits 233 = .ok (.iconst 1, 1) := by decide +kernel
theorem dX12_commits_234 : decode cX12_commits 234 = .ok (.iadd, 1) := by decide +kernel
theorem dX12_commits_235 : decode cX12_commits 235 = .ok (.putfield 345, 3) := by decide +kernel
theorem dX12_commits_238 : decode cX12_commits 238 = .ok (.aload_n 0, 1) := by decide +kernel
theorem dX12_commits_239 : decode cX12_commits 239 = .ok (.getfield 71, 3) := by decide +kernel
theorem dX12_commits_242 : decode cX12_commits 242 = .ok (.iload_n 1, 1) := by decide +kernel
theorem dX12_commits_243 : decode cX12_commits 243 = .ok (.aload_n 0, 1) := by decide +kernel
theorem dX12_commits_244 : decode cX12_commits 244 = .ok (.getfield 412, 3) := by decide +kernel
theorem dX12_commits_247 : decode cX12_commits 247 = .ok (.iastore, 1) := by decide +kernel
theorem dX12_commits_248 : decode cX12_commits 248 = .ok (.aload_n 0, 1) := by decide +kernel
theorem dX12_commits_249 : decode cX12_commits 249 = .ok (.dup, 1) := by decide +kernel
theorem dX12_commits_250 : decode cX12_commits 250 = .ok (.getfield 348, 3) := by decide +kernel
theorem dX12_commits_253 : decode cX12_commits 253 = .ok (.iconst 1, 1) := by decide +kernel
theorem dX12_commits_254 : decode cX12_commits 254 = .ok (.iadd, 1) := by decide +kernel
theorem dX12_commits_255 : decode cX12_commits 255 = .ok (.putfield 348, 3) := by decide +kernel
theorem dX12_commits_258 : decode cX12_commits 258 = .ok (.aload_n 0, 1) := by decide +kernel
theorem dX12_commits_259 : decode cX12_commits 259 = .ok (.getfield 113, 3) := by decide +kernel
theorem dX12_commits_262 : decode cX12_commits 262 = .ok (.aload_n 0, 1) := by decide +kernel
theorem dX12_commits_263 : decode cX12_commits 263 = .ok (.getfield 59, 3) := by decide +kernel
theorem dX12_commits_266 : decode cX12_commits 266 = .ok (.iload_n 1, 1) := by decide +kernel
theorem dX12_commits_267 : decode cX12_commits 267 = .ok (.iaload, 1) := by decide +kernel
theorem dX12_commits_268 : decode cX12_commits 268 = .ok (.dup2, 1) := by decide +kernel
theorem dX12_commits_269 : decode cX12_commits 269 = .ok (.iaload, 1) := by decide +kernel
theorem dX12_commits_270 : decode cX12_commits 270 = .ok (.iconst 1, 1) := by decide +kernel
theorem dX12_commits_271 : decode cX12_commits 271 = .ok (.iadd, 1) := by decide +kernel
theorem dX12_commits_272 : decode cX12_commits 272 = .ok (.iastore, 1) := by decide +kernel
theorem dX12_commits_273 : decode cX12_commits 273 = .ok (.return_, 1) := by decide +kernel
theorem dX12_tries_0 : decode cX12_tries 0 = .ok (.aload_n 0, 1) := by decide +kernel
theorem dX12_tries_1 : decode cX12_tries 1 = .ok (.getfield 59, 3) := by decide +kernel
theorem dX12_tries_4 : decode cX12_tries 4 = .ok (.iload_n 1, 1) := by decide +kernel
theorem dX12_tries_5 : decode cX12_tries 5 = .ok (.iaload, 1) := by decide +kernel
theorem dX12_tries_6 : decode cX12_tries 6 = .ok (.istore_n 3, 1) := by decide +kernel
theorem dX12_tries_7 : decode cX12_tries 7 = .ok (.iload_n 3, 1) := by decide +kernel
theorem dX12_tries_8 : decode cX12_tries 8 = .ok (.iconst (-1), 1) := by decide +kernel
theorem dX12_tries_9 : decode cX12_tries 9 = .ok (.if_icmp .eq 17, 3) := by decide +kernel
theorem dX12_tries_12 : decode cX12_tries 12 = .ok (.aload_n 0, 1) := by decide +kernel
theorem dX12_tries_13 : decode cX12_tries 13 = .ok (.getfield 62, 3) := by decide +kernel
theorem dX12_tries_16 : decode cX12_tries 16 = .ok (.iload_n 1, 1) := by decide +kernel
theorem dX12_tries_17 : decode cX12_tries 17 = .ok (.iaload, 1) := by decide +kernel
theorem dX12_tries_18 : decode cX12_tries 18 = .ok (.aload_n 0, 1) := by decide +kernel
theorem dX12_tries_19 : decode cX12_tries 19 = .ok (.iload_n 3, 1) := by decide +kernel
theorem dX12_tries_20 : decode cX12_tries 20 = .ok (.invokevirtual 381, 3) := by decide +kernel
theorem dX12_tries_23 : decode cX12_tries 23 = .ok (.if_icmp .ge 5, 3) := by decide +kernel
theorem dX12_tries_26 : decode cX12_tries 26 = .ok (.iconst 0, 1) := by decide +kernel
theorem dX12_tries_27 : decode cX12_tries 27 = .ok (.ireturn, 1) := by decide +kernel
theorem dX12_tries_28 : decode cX12_tries 28 = .ok (.aload_n 0, 1) := by decide +kernel
theorem dX12_tries_29 : decode cX12_tries 29 = .ok (.iload_n 1, 1) := by decide +kernel
theorem dX12_tries_30 : decode cX12_tries 30 = .ok (.invokevirtual 424, 3) := by decide +kernel
theorem dX12_tries_33 : decode cX12_tries 33 = .ok (.aload_n 0, 1) := by decide +kernel
theorem dX12_tries_34 : decode cX12_tries 34 = .ok (.getfield 403, 3) := by decide +kernel
theorem dX12_tries_37 : decode cX12_tries 37 = .ok (.iconst 1, 1) := by decide +kernel
theorem dX12_tries_38 : decode cX12_tries 38 = .ok (.if_icmp .ne 12, 3) := by decide +kernel
theorem dX12_tries_41 : decode cX12_tries 41 = .ok (.aload_n 0, 1) := by decide +kernel
theorem dX12_tries_42 : decode cX12_tries 42 = .ok (.iload_n 1, 1) := by decide +kernel
theorem dX12_tries_43 : decode cX12_tries 43 = .ok (.iload_n 2, 1) := by decide +kernel
theorem dX12_tries_44 : decode cX12_tries 44 = .ok (.invokevirtual 427, 3) := by decide +kernel
theorem dX12_tries_47 : decode cX12_tries 47 = .ok (.goto 53, 3) := by decide +kernel
theorem dX12_tries_50 : decode cX12_tries 50 = .ok (.aload_n 0, 1) := by decide +kernel
theorem dX12_tries_51 : decode cX12_tries 51 = .ok (.dup, 1) := by decide +kernel
theorem dX12_tries_52 : decode cX12_tries 52 = .ok (.getfield 351, 3) := by decide +kernel
theorem dX12_tries_55 : decode cX12_tries 55 = .ok (.iconst 1, 1) := by decide +kernel
theorem dX12_tries_56 : decode cX12_tries 56 = .ok (.iadd, 1) := by decide +kernel
theorem dX12_tries_57 : decode cX12_tries 57 = .ok (.putfield 351, 3) := by decide +kernel
theorem dX12_tries_60 : decode cX12_tries 60 = .ok (.aload_n 0, 1) := by decide +kernel
theorem dX12_tries_61 : decode cX12_tries 61 = .ok (.dup, 1) := by decide +kernel
theorem dX12_tries_62 : decode cX12_tries 62 = .ok (.getfield 354, 3) := by decide +kernel
theorem dX12_tries_65 : decode cX12_tries 65 = .ok (.aload_n 0, 1) := by decide +kernel
theorem dX12_tries_66 : decode cX12_tries 66 = .ok (.getfield 62, 3) := by decide +kernel
theorem dX12_tries_69 : decode cX12_tries 69 = .ok (.iload_n 1, 1) := by decide +kernel
theorem dX12_tries_70 : decode cX12_tries 70 = .ok (.iaload, 1) := by decide +kernel
theorem dX12_tries_71 : decode cX12_tries 71 = .ok (.iadd, 1) := by decide +kernel
theorem dX12_tries_72 : decode cX12_tries 72 = .ok (.putfield 354, 3) := by decide +kernel
theorem dX12_tries_75 : decode cX12_tries 75 = .ok (.aload_n 0, 1) := by decide +kernel
theorem dX12_tries_76 : decode cX12_tries 76 = .ok (.getfield 116, 3) := by decide +kernel
theorem dX12_tries_79 : decode cX12_tries 79 = .ok (.aload_n 0, 1) := by decide +kernel
theorem dX12_tries_80 : decode cX12_tries 80 = .ok (.getfield 406, 3) := by decide +kernel
theorem dX12_tries_83 : decode cX12_tries 83 = .ok (.dup2, 1) := by decide +kernel
theorem dX12_tries_84 : decode cX12_tries 84 = .ok (.iaload, 1) := by decide +kernel
theorem dX12_tries_85 : decode cX12_tries 85 = .ok (.aload_n 0, 1) := by decide +kernel
theorem dX12_tries_86 : decode cX12_tries 86 = .ok (.getfield 403, 3) := by decide +kernel
theorem dX12_tries_89 : decode cX12_tries 89 = .ok (.iconst 2, 1) := by decide +kernel
theorem dX12_tries_90 : decode cX12_tries 90 = .ok (.if_icmp .ne 7, 3) := by decide +kernel
theorem dX12_tries_93 : decode cX12_tries 93 = .ok (.iconst 1, 1) := by decide +kernel
theorem dX12_tries_94 : decode cX12_tries 94 = .ok (.goto 4, 3) := by decide +kernel
theorem dX12_tries_97 : decode cX12_tries 97 = .ok (.iconst 0, 1) := by decide +kernel
theorem dX12_tries_98 : decode cX12_tries 98 = .ok (.iadd, 1) := by decide +kernel
theorem dX12_tries_99 : decode cX12_tries 99 = .ok (.iastore, 1) := by decide +kernel
theorem dX12_tries_100 : decode cX12_tries 100 = .ok (.aload_n 0, 1) := by decide +kernel
theorem dX12_tries_101 : decode cX12_tries 101 = .ok (.iload_n 1, 1) := by decide +kernel
theorem dX12_tries_102 : decode cX12_tries 102 = .ok (.invokevirtual 363, 3) := by decide +kernel
theorem dX12_tries_105 : decode cX12_tries 105 = .ok (.iconst 1, 1) := by decide +kernel
theorem dX12_tries_106 : decode cX12_tries 106 = .ok (.ireturn, 1) := by decide +kernel
theorem dX12_durable_0 : decode cX12_durable 0 = .ok (.aload_n 0, 1) := by decide +kernel
theorem dX12_durable_1 : decode cX12_durable 1 = .ok (.getfield 74, 3) := by decide +kernel
theorem dX12_durable_4 : decode cX12_durable 4 = .ok (.iconst 0, 1) := by decide +kernel
theorem dX12_durable_5 : decode cX12_durable 5 = .ok (.iaload, 1) := by decide +kernel
theorem dX12_durable_6 : decode cX12_durable 6 = .ok (.istore_n 1, 1) := by decide +kernel
theorem dX12_durable_7 : decode cX12_durable 7 = .ok (.iconst 1, 1) := by decide +kernel
theorem dX12_durable_8 : decode cX12_durable 8 = .ok (.istore_n 2, 1) := by decide +kernel
theorem dX12_durable_9 : decode cX12_durable 9 = .ok (.iload_n 2, 1) := by decide +kernel
theorem dX12_durable_10 : decode cX12_durable 10 = .ok (.aload_n 0, 1) := by decide +kernel
theorem dX12_durable_11 : decode cX12_durable 11 = .ok (.getfield 326, 3) := by decide +kernel
theorem dX12_durable_14 : decode cX12_durable 14 = .ok (.if_icmp .ge 20, 3) := by decide +kernel
theorem dX12_durable_17 : decode cX12_durable 17 = .ok (.iload_n 1, 1) := by decide +kernel
theorem dX12_durable_18 : decode cX12_durable 18 = .ok (.aload_n 0, 1) := by decide +kernel
theorem dX12_durable_19 : decode cX12_durable 19 = .ok (.getfield 74, 3) := by decide +kernel
theorem dX12_durable_22 : decode cX12_durable 22 = .ok (.iload_n 2, 1) := by decide +kernel
theorem dX12_durable_23 : decode cX12_durable 23 = .ok (.iaload, 1) := by decide +kernel
theorem dX12_durable_24 : decode cX12_durable 24 = .ok (.invokestatic 239, 3) := by decide +kernel
theorem dX12_durable_27 : decode cX12_durable 27 = .ok (.istore_n 1, 1) := by decide +kernel
theorem dX12_durable_28 : decode cX12_durable 28 = .ok (.iinc 2 1, 3) := by decide +kernel
theorem dX12_durable_31 : decode cX12_durable 31 = .ok (.goto (-22), 3) := by decide +kernel
theorem dX12_durable_34 : decode cX12_durable 34 = .ok (.iload_n 1, 1) := by decide +kernel
theorem dX12_durable_35 : decode cX12_durable 35 = .ok (.ireturn, 1) := by decide +kernel
theorem dX12_nextEpoch_0 : decode cX12_nextEpoch 0 = .ok (.aload_n 0, 1) := by decide +kernel
theorem dX12_nextEpoch_1 : decode cX12_nextEpoch 1 = .ok (.getfield 342, 3) := by decide +kernel
theorem dX12_nextEpoch_4 : decode cX12_nextEpoch 4 = .ok (.bipush 50, 2) := by decide +kernel
theorem dX12_nextEpoch_6 : decode cX12_nextEpoch 6 = .ok (.if_icmp .ne 5, 3) := by decide +kernel
theorem dX12_nextEpoch_9 : decode cX12_nextEpoch 9 = .ok (.iconst 0, 1) := by decide +kernel
theorem dX12_nextEpoch_10 : decode cX12_nextEpoch 10 = .ok (.ireturn, 1) := by decide +kernel
theorem dX12_nextEpoch_11 : decode cX12_nextEpoch 11 = .ok (.iconst 0, 1) := by decide +kernel
theorem dX12_nextEpoch_12 : decode cX12_nextEpoch 12 = .ok (.istore_n 1, 1) := by decide +kernel
theorem dX12_nextEpoch_13 : decode cX12_nextEpoch 13 = .ok (.iload_n 1, 1) := by decide +kernel
theorem dX12_nextEpoch_14 : decode cX12_nextEpoch 14 = .ok (.aload_n 0, 1) := by decide +kernel
theorem dX12_nextEpoch_15 : decode cX12_nextEpoch 15 = .ok (.getfield 326, 3) := by decide +kernel
theorem dX12_nextEpoch_18 : decode cX12_nextEpoch 18 = .ok (.if_icmp .ge 34, 3) := by decide +kernel
theorem dX12_nextEpoch_21 : decode cX12_nextEpoch 21 = .ok (.aload_n 0, 1) := by decide +kernel
theorem dX12_nextEpoch_22 : decode cX12_nextEpoch 22 = .ok (.getfield 59, 3) := by decide +kernel
theorem dX12_nextEpoch_25 : decode cX12_nextEpoch 25 = .ok (.iload_n 1, 1) := by decide +kernel
theorem dX12_nextEpoch_26 : decode cX12_nextEpoch 26 = .ok (.iaload, 1) := by decide +kernel
theorem dX12_nextEpoch_27 : decode cX12_nextEpoch 27 = .ok (.iconst (-1), 1) := by decide +kernel
theorem dX12_nextEpoch_28 : decode cX12_nextEpoch 28 = .ok (.if_icmp .eq 18, 3) := by decide +kernel
theorem dX12_nextEpoch_31 : decode cX12_nextEpoch 31 = .ok (.aload_n 0, 1) := by decide +kernel
theorem dX12_nextEpoch_32 : decode cX12_nextEpoch 32 = .ok (.getfield 68, 3) := by decide +kernel
theorem dX12_nextEpoch_35 : decode cX12_nextEpoch 35 = .ok (.iload_n 1, 1) := by decide +kernel
theorem dX12_nextEpoch_36 : decode cX12_nextEpoch 36 = .ok (.iaload, 1) := by decide +kernel
theorem dX12_nextEpoch_37 : decode cX12_nextEpoch 37 = .ok (.aload_n 0, 1) := by decide +kernel
theorem dX12_nextEpoch_38 : decode cX12_nextEpoch 38 = .ok (.getfield 342, 3) := by decide +kernel
theorem dX12_nextEpoch_41 : decode cX12_nextEpoch 41 = .ok (.if_icmp .ge 5, 3) := by decide +kernel
theorem dX12_nextEpoch_44 : decode cX12_nextEpoch 44 = .ok (.iconst 0, 1) := by decide +kernel
theorem dX12_nextEpoch_45 : decode cX12_nextEpoch 45 = .ok (.ireturn, 1) := by decide +kernel
theorem dX12_nextEpoch_46 : decode cX12_nextEpoch 46 = .ok (.iinc 1 1, 3) := by decide +kernel
theorem dX12_nextEpoch_49 : decode cX12_nextEpoch 49 = .ok (.goto (-36), 3) := by decide +kernel
theorem dX12_nextEpoch_52 : decode cX12_nextEpoch 52 = .ok (.aload_n 0, 1) := by decide +kernel
theorem dX12_nextEpoch_53 : decode cX12_nextEpoch 53 = .ok (.dup, 1) := by decide +kernel
theorem dX12_nextEpoch_54 : decode cX12_nextEpoch 54 = .ok (.getfield 342, 3) := by decide +kernel
theorem dX12_nextEpoch_57 : decode cX12_nextEpoch 57 = .ok (.iconst 1, 1) := by decide +kernel
theorem dX12_nextEpoch_58 : decode cX12_nextEpoch 58 = .ok (.iadd, 1) := by decide +kernel
theorem dX12_nextEpoch_59 : decode cX12_nextEpoch 59 = .ok (.putfield 342, 3) := by decide +kernel
theorem dX12_nextEpoch_62 : decode cX12_nextEpoch 62 = .ok (.iconst 1, 1) := by decide +kernel
theorem dX12_nextEpoch_63 : decode cX12_nextEpoch 63 = .ok (.ireturn, 1) := by decide +kernel
theorem dX12_flushes_0 : decode cX12_flushes 0 = .ok (.iconst 0, 1) := by decide +kernel
theorem dX12_flushes_1 : decode cX12_flushes 1 = .ok (.istore_n 2, 1) := by decide +kernel
theorem dX12_flushes_2 : decode cX12_flushes 2 = .ok (.iload_n 2, 1) := by decide +kernel
theorem dX12_flushes_3 : decode cX12_flushes 3 = .ok (.aload_n 0, 1) := by decide +kernel
theorem dX12_flushes_4 : decode cX12_flushes 4 = .ok (.getfield 345, 3) := by decide +kernel
theorem dX12_flushes_7 : decode cX12_flushes 7 = .ok (.if_icmp .ge 35, 3) := by decide +kernel
theorem dX12_flushes_10 : decode cX12_flushes 10 = .ok (.aload_n 0, 1) := by decide +kernel
theorem dX12_flushes_11 : decode cX12_flushes 11 = .ok (.getfield 98, 3) := by decide +kernel
theorem dX12_flushes_14 : decode cX12_flushes 14 = .ok (.iload_n 2, 1) := by decide +kernel
theorem dX12_flushes_15 : decode cX12_flushes 15 = .ok (.aload_n 0, 1) := by decide +kernel
theorem dX12_flushes_16 : decode cX12_flushes 16 = .ok (.getfield 86, 3) := by decide +kernel
theorem dX12_flushes_19 : decode cX12_flushes 19 = .ok (.iload_n 2, 1) := by decide +kernel
theorem dX12_flushes_20 : decode cX12_flushes 20 = .ok (.iaload, 1) := by decide +kernel
theorem dX12_flushes_21 : decode cX12_flushes 21 = .ok (.iload_n 1, 1) := by decide +kernel
theorem dX12_flushes_22 : decode cX12_flushes 22 = .ok (.if_icmp .ne 7, 3) := by decide +kernel
theorem dX12_flushes_25 : decode cX12_flushes 25 = .ok (.iconst 1, 1) := by decide +kernel
theorem dX12_flushes_26 : decode cX12_flushes 26 = .ok (.goto 9, 3) := by decide +kernel
theorem dX12_flushes_29 : decode cX12_flushes 29 = .ok (.aload_n 0, 1) := by decide +kernel
theorem dX12_flushes_30 : decode cX12_flushes 30 = .ok (.getfield 98, 3) := by decide +kernel
theorem dX12_flushes_33 : decode cX12_flushes 33 = .ok (.iload_n 2, 1) := by decide +kernel
theorem dX12_flushes_34 : decode cX12_flushes 34 = .ok (.iaload, 1) := by decide +kernel
theorem dX12_flushes_35 : decode cX12_flushes 35 = .ok (.iastore, 1) := by decide +kernel
theorem dX12_flushes_36 : decode cX12_flushes 36 = .ok (.iinc 2 1, 3) := by decide +kernel
theorem dX12_flushes_39 : decode cX12_flushes 39 = .ok (.goto (-37), 3) := by decide +kernel
theorem dX12_flushes_42 : decode cX12_flushes 42 = .ok (.aload_n 0, 1) := by decide +kernel
theorem dX12_flushes_43 : decode cX12_flushes 43 = .ok (.getfield 74, 3) := by decide +kernel
theorem dX12_flushes_46 : decode cX12_flushes 46 = .ok (.iload_n 1, 1) := by decide +kernel
theorem dX12_flushes_47 : decode cX12_flushes 47 = .ok (.aload_n 0, 1) := by decide +kernel
theorem dX12_flushes_48 : decode cX12_flushes 48 = .ok (.getfield 342, 3) := by decide +kernel
theorem dX12_flushes_51 : decode cX12_flushes 51 = .ok (.iconst 1, 1) := by decide +kernel
theorem dX12_flushes_52 : decode cX12_flushes 52 = .ok (.isub, 1) := by decide +kernel
theorem dX12_flushes_53 : decode cX12_flushes 53 = .ok (.iastore, 1) := by decide +kernel
theorem dX12_flushes_54 : decode cX12_flushes 54 = .ok (.return_, 1) := by decide +kernel
theorem dX12_isSafe_0 : decode cX12_isSafe 0 = .ok (.aload_n 0, 1) := by decide +kernel
theorem dX12_isSafe_1 : decode cX12_isSafe 1 = .ok (.getfield 86, 3) := by decide +kernel
theorem dX12_isSafe_4 : decode cX12_isSafe 4 = .ok (.iload_n 1, 1) := by decide +kernel
theorem dX12_isSafe_5 : decode cX12_isSafe 5 = .ok (.iaload, 1) := by decide +kernel
theorem dX12_isSafe_6 : decode cX12_isSafe 6 = .ok (.iconst (-1), 1) := by decide +kernel
theorem dX12_isSafe_7 : decode cX12_isSafe 7 = .ok (.if_icmp .eq 27, 3) := by decide +kernel
theorem dX12_isSafe_10 : decode cX12_isSafe 10 = .ok (.aload_n 0, 1) := by decide +kernel
theorem dX12_isSafe_11 : decode cX12_isSafe 11 = .ok (.getfield 98, 3) := by decide +kernel
theorem dX12_isSafe_14 : decode cX12_isSafe 14 = .ok (.iload_n 1, 1) := by decide +kernel
theorem dX12_isSafe_15 : decode cX12_isSafe 15 = .ok (.iaload, 1) := by decide +kernel
theorem dX12_isSafe_16 : decode cX12_isSafe 16 = .ok (.iconst 1, 1) := by decide +kernel
theorem dX12_isSafe_17 : decode cX12_isSafe 17 = .ok (.if_icmp .ne 17, 3) := by decide +kernel
theorem dX12_isSafe_20 : decode cX12_isSafe 20 = .ok (.aload_n 0, 1) := by decide +kernel
theorem dX12_isSafe_21 : decode cX12_isSafe 21 = .ok (.getfield 92, 3) := by decide +kernel
theorem dX12_isSafe_24 : decode cX12_isSafe 24 = .ok (.iload_n 1, 1) := by decide +kernel
theorem dX12_isSafe_25 : decode cX12_isSafe 25 = .ok (.iaload, 1) := by decide +kernel
theorem dX12_isSafe_26 : decode cX12_isSafe 26 = .ok (.iload_n 2, 1) := by decide +kernel
theorem dX12_isSafe_27 : decode cX12_isSafe 27 = .ok (.if_icmp .gt 7, 3) := by decide +kernel
theorem dX12_isSafe_30 : decode cX12_isSafe 30 = .ok (.iconst 1, 1) := by decide +kernel
theorem dX12_isSafe_31 : decode cX12_isSafe 31 = .ok (.goto 4, 3) := by decide +kernel
theorem dX12_isSafe_34 : decode cX12_isSafe 34 = .ok (.iconst 0, 1) := by decide +kernel
theorem dX12_isSafe_35 : decode cX12_isSafe 35 = .ok (.ireturn, 1) := by decide +kernel
theorem dX12_nextSafe_0 : decode cX12_nextSafe 0 = .ok (.iconst (-1), 1) := by decide +kernel
theorem dX12_nextSafe_1 : decode cX12_nextSafe 1 = .ok (.istore_n 3, 1) := by decide +kernel
theorem dX12_nextSafe_2 : decode cX12_nextSafe 2 = .ok (.iconst 0, 1) := by decide +kernel
theorem dX12_nextSafe_3 : decode cX12_nextSafe 3 = .ok (.istore 4, 2) := by decide +kernel
theorem dX12_nextSafe_5 : decode cX12_nextSafe 5 = .ok (.iload 4, 2) := by decide +kernel
theorem dX12_nextSafe_7 : decode cX12_nextSafe 7 = .ok (.aload_n 0, 1) := by decide +kernel
theorem dX12_nextSafe_8 : decode cX12_nextSafe 8 = .ok (.getfield 345, 3) := by decide +kernel
theorem dX12_nextSafe_11 : decode cX12_nextSafe 11 = .ok (.if_icmp .ge 68, 3) := by decide +kernel
theorem dX12_nextSafe_14 : decode cX12_nextSafe 14 = .ok (.iload_n 1, 1) := by decide +kernel
theorem dX12_nextSafe_15 : decode cX12_nextSafe 15 = .ok (.iconst (-1), 1) := by decide +kernel
theorem dX12_nextSafe_16 : decode cX12_nextSafe 16 = .ok (.if_icmp .eq 13, 3) := by decide +kernel
theorem dX12_nextSafe_19 : decode cX12_nextSafe 19 = .ok (.aload_n 0, 1) := by decide +kernel
theorem dX12_nextSafe_20 : decode cX12_nextSafe 20 = .ok (.iload 4, 2) := by decide +kernel
theorem dX12_nextSafe_22 : decode cX12_nextSafe 22 = .ok (.iload_n 1, 1) := by decide +kernel
theorem dX12_nextSafe_23 : decode cX12_nextSafe 23 = .ok (.invokevirtual 430, 3) := by decide +kernel
theorem dX12_nextSafe_26 : decode cX12_nextSafe 26 = .ok (.ifCond .eq 7, 3) := by decide +kernel
theorem dX12_nextSafe_29 : decode cX12_nextSafe 29 = .ok (.iconst 1, 1) := by decide +kernel
theorem dX12_nextSafe_30 : decode cX12_nextSafe 30 = .ok (.goto 4, 3) := by decide +kernel
theorem dX12_nextSafe_33 : decode cX12_nextSafe 33 = .ok (.iconst 0, 1) := by decide +kernel
theorem dX12_nextSafe_34 : decode cX12_nextSafe 34 = .ok (.istore 5, 2) := by decide +kernel
theorem dX12_nextSafe_36 : decode cX12_nextSafe 36 = .ok (.aload_n 0, 1) := by decide +kernel
theorem dX12_nextSafe_37 : decode cX12_nextSafe 37 = .ok (.iload 4, 2) := by decide +kernel
theorem dX12_nextSafe_39 : decode cX12_nextSafe 39 = .ok (.iload_n 2, 1) := by decide +kernel
theorem dX12_nextSafe_40 : decode cX12_nextSafe 40 = .ok (.invokevirtual 433, 3) := by decide +kernel
theorem dX12_nextSafe_43 : decode cX12_nextSafe 43 = .ok (.ifCond .eq 28, 3) := by decide +kernel
theorem dX12_nextSafe_46 : decode cX12_nextSafe 46 = .ok (.iload 5, 2) := by decide +kernel
theorem dX12_nextSafe_48 : decode cX12_nextSafe 48 = .ok (.ifCond .eq 23, 3) := by decide +kernel
theorem dX12_nextSafe_51 : decode cX12_nextSafe 51 = .ok (.iload_n 3, 1) := by decide +kernel
theorem dX12_nextSafe_52 : decode cX12_nextSafe 52 = .ok (.iconst (-1), 1) := by decide +kernel
theorem dX12_nextSafe_53 : decode cX12_nextSafe 53 = .ok (.if_icmp .eq 13, 3) := by decide +kernel
theorem dX12_nextSafe_56 : decode cX12_nextSafe 56 = .ok (.aload_n 0, 1) := by decide +kernel
theorem dX12_nextSafe_57 : decode cX12_nextSafe 57 = .ok (.iload_n 3, 1) := by decide +kernel
theorem dX12_nextSafe_58 : decode cX12_nextSafe 58 = .ok (.iload 4, 2) := by decide +kernel
theorem dX12_nextSafe_60 : decode cX12_nextSafe 60 = .ok (.invokevirtual 430, 3) := by decide +kernel
theorem dX12_nextSafe_63 : decode cX12_nextSafe 63 = .ok (.ifCond .eq 8, 3) := by decide +kernel
theorem dX12_nextSafe_66 : decode cX12_nextSafe 66 = .ok (.iload 4, 2) := by decide +kernel
theorem dX12_nextSafe_68 : decode cX12_nextSafe 68 = .ok (.goto 4, 3) := by decide +kernel
theorem dX12_nextSafe_71 : decode cX12_nextSafe 71 = .ok (.iload_n 3, 1) := by decide +kernel
theorem dX12_nextSafe_72 : decode cX12_nextSafe 72 = .ok (.istore_n 3, 1) := by decide +kernel
theorem dX12_nextSafe_73 : decode cX12_nextSafe 73 = .ok (.iinc 4 1, 3) := by decide +kernel
theorem dX12_nextSafe_76 : decode cX12_nextSafe 76 = .ok (.goto (-71), 3) := by decide +kernel
theorem dX12_nextSafe_79 : decode cX12_nextSafe 79 = .ok (.iload_n 3, 1) := by decide +kernel
theorem dX12_nextSafe_80 : decode cX12_nextSafe 80 = .ok (.ireturn, 1) := by decide +kernel
theorem dX12_isBehind_0 : decode cX12_isBehind 0 = .ok (.aload_n 0, 1) := by decide +kernel
theorem dX12_isBehind_1 : decode cX12_isBehind 1 = .ok (.getfield 95, 3) := by decide +kernel
theorem dX12_isBehind_4 : decode cX12_isBehind 4 = .ok (.iload_n 1, 1) := by decide +kernel
theorem dX12_isBehind_5 : decode cX12_isBehind 5 = .ok (.iaload, 1) := by decide +kernel
theorem dX12_isBehind_6 : decode cX12_isBehind 6 = .ok (.aload_n 0, 1) := by decide +kernel
theorem dX12_isBehind_7 : decode cX12_isBehind 7 = .ok (.getfield 95, 3) := by decide +kernel
theorem dX12_isBehind_10 : decode cX12_isBehind 10 = .ok (.iload_n 2, 1) := by decide +kernel
theorem dX12_isBehind_11 : decode cX12_isBehind 11 = .ok (.iaload, 1) := by decide +kernel
theorem dX12_isBehind_12 : decode cX12_isBehind 12 = .ok (.if_icmp .eq 26, 3) := by decide +kernel
theorem dX12_isBehind_15 : decode cX12_isBehind 15 = .ok (.aload_n 0, 1) := by decide +kernel
theorem dX12_isBehind_16 : decode cX12_isBehind 16 = .ok (.getfield 95, 3) := by decide +kernel
theorem dX12_isBehind_19 : decode cX12_isBehind 19 = .ok (.iload_n 1, 1) := by decide +kernel
theorem dX12_isBehind_20 : decode cX12_isBehind 20 = .ok (.iaload, 1) := by decide +kernel
theorem dX12_isBehind_21 : decode cX12_isBehind 21 = .ok (.aload_n 0, 1) := by decide +kernel
theorem dX12_isBehind_22 : decode cX12_isBehind 22 = .ok (.getfield 95, 3) := by decide +kernel
theorem dX12_isBehind_25 : decode cX12_isBehind 25 = .ok (.iload_n 2, 1) := by decide +kernel
theorem dX12_isBehind_26 : decode cX12_isBehind 26 = .ok (.iaload, 1) := by decide +kernel
theorem dX12_isBehind_27 : decode cX12_isBehind 27 = .ok (.if_icmp .le 7, 3) := by decide +kernel
theorem dX12_isBehind_30 : decode cX12_isBehind 30 = .ok (.iconst 1, 1) := by decide +kernel
theorem dX12_isBehind_31 : decode cX12_isBehind 31 = .ok (.goto 27, 3) := by decide +kernel
theorem dX12_isBehind_34 : decode cX12_isBehind 34 = .ok (.iconst 0, 1) := by decide +kernel
theorem dX12_isBehind_35 : decode cX12_isBehind 35 = .ok (.goto 23, 3) := by decide +kernel
theorem dX12_isBehind_38 : decode cX12_isBehind 38 = .ok (.aload_n 0, 1) := by decide +kernel
theorem dX12_isBehind_39 : decode cX12_isBehind 39 = .ok (.getfield 86, 3) := by decide +kernel
theorem dX12_isBehind_42 : decode cX12_isBehind 42 = .ok (.iload_n 1, 1) := by decide +kernel
theorem dX12_isBehind_43 : decode cX12_isBehind 43 = .ok (.iaload, 1) := by decide +kernel
theorem dX12_isBehind_44 : decode cX12_isBehind 44 = .ok (.aload_n 0, 1) := by decide +kernel
theorem dX12_isBehind_45 : decode cX12_isBehind 45 = .ok (.getfield 86, 3) := by decide +kernel
theorem dX12_isBehind_48 : decode cX12_isBehind 48 = .ok (.iload_n 2, 1) := by decide +kernel
theorem dX12_isBehind_49 : decode cX12_isBehind 49 = .ok (.iaload, 1) := by decide +kernel
theorem dX12_isBehind_50 : decode cX12_isBehind 50 = .ok (.if_icmp .le 7, 3) := by decide +kernel
theorem dX12_isBehind_53 : decode cX12_isBehind 53 = .ok (.iconst 1, 1) := by decide +kernel
theorem dX12_isBehind_54 : decode cX12_isBehind 54 = .ok (.goto 4, 3) := by decide +kernel
theorem dX12_isBehind_57 : decode cX12_isBehind 57 = .ok (.iconst 0, 1) := by decide +kernel
theorem dX12_isBehind_58 : decode cX12_isBehind 58 = .ok (.ireturn, 1) := by decide +kernel
theorem dX12_layLeft_0 : decode cX12_layLeft 0 = .ok (.aload_n 0, 1) := by decide +kernel
theorem dX12_layLeft_1 : decode cX12_layLeft 1 = .ok (.invokevirtual 436, 3) := by decide +kernel
theorem dX12_layLeft_4 : decode cX12_layLeft 4 = .ok (.istore_n 1, 1) := by decide +kernel
theorem dX12_layLeft_5 : decode cX12_layLeft 5 = .ok (.aload_n 0, 1) := by decide +kernel
theorem dX12_layLeft_6 : decode cX12_layLeft 6 = .ok (.aload_n 0, 1) := by decide +kernel
theorem dX12_layLeft_7 : decode cX12_layLeft 7 = .ok (.iconst 2, 1) := by decide +kernel
theorem dX12_layLeft_8 : decode cX12_layLeft 8 = .ok (.invokevirtual 332, 3) := by decide +kernel
theorem dX12_layLeft_11 : decode cX12_layLeft 11 = .ok (.putfield 439, 3) := by decide +kernel
theorem dX12_layLeft_14 : decode cX12_layLeft 14 = .ok (.iconst 0, 1) := by decide +kernel
theorem dX12_layLeft_15 : decode cX12_layLeft 15 = .ok (.istore_n 2, 1) := by decide +kernel
theorem dX12_layLeft_16 : decode cX12_layLeft 16 = .ok (.iload_n 2, 1) := by decide +kernel
theorem dX12_layLeft_17 : decode cX12_layLeft 17 = .ok (.bipush 10, 2) := by decide +kernel
theorem dX12_layLeft_19 : decode cX12_layLeft 19 = .ok (.if_icmp .ge 29, 3) := by decide +kernel
theorem dX12_layLeft_22 : decode cX12_layLeft 22 = .ok (.aload_n 0, 1) := by decide +kernel
theorem dX12_layLeft_23 : decode cX12_layLeft 23 = .ok (.getfield 119, 3) := by decide +kernel
theorem dX12_layLeft_26 : decode cX12_layLeft 26 = .ok (.iload_n 2, 1) := by decide +kernel
theorem dX12_layLeft_27 : decode cX12_layLeft 27 = .ok (.aload_n 0, 1) := by decide +kernel
theorem dX12_layLeft_28 : decode cX12_layLeft 28 = .ok (.iconst 3, 1) := by decide +kernel
theorem dX12_layLeft_29 : decode cX12_layLeft 29 = .ok (.iload_n 2, 1) := by decide +kernel
theorem dX12_layLeft_30 : decode cX12_layLeft 30 = .ok (.iadd, 1) := by decide +kernel
theorem dX12_layLeft_31 : decode cX12_layLeft 31 = .ok (.invokevirtual 332, 3) := by decide +kernel
theorem dX12_layLeft_34 : decode cX12_layLeft 34 = .ok (.iastore, 1) := by decide +kernel
theorem dX12_layLeft_35 : decode cX12_layLeft 35 = .ok (.aload_n 0, 1) := by decide +kernel
theorem dX12_layLeft_36 : decode cX12_layLeft 36 = .ok (.getfield 122, 3) := by decide +kernel
theorem dX12_layLeft_39 : decode cX12_layLeft 39 = .ok (.iload_n 2, 1) := by decide +kernel
theorem dX12_layLeft_40 : decode cX12_layLeft 40 = .ok (.iconst 0, 1) := by decide +kernel
theorem dX12_layLeft_41 : decode cX12_layLeft 41 = .ok (.iastore, 1) := by decide +kernel
theorem dX12_layLeft_42 : decode cX12_layLeft 42 = .ok (.iinc 2 1, 3) := by decide +kernel
theorem dX12_layLeft_45 : decode cX12_layLeft 45 = .ok (.goto (-29), 3) := by decide +kernel
theorem dX12_layLeft_48 : decode cX12_layLeft 48 = .ok (.aload_n 0, 1) := by decide +kernel
theorem dX12_layLeft_49 : decode cX12_layLeft 49 = .ok (.iconst (-1), 1) := by decide +kernel
theorem dX12_layLeft_50 : decode cX12_layLeft 50 = .ok (.iload_n 1, 1) := by decide +kernel
theorem dX12_layLeft_51 : decode cX12_layLeft 51 = .ok (.invokevirtual 442, 3) := by decide +kernel
theorem dX12_layLeft_54 : decode cX12_layLeft 54 = .ok (.istore_n 2, 1) := by decide +kernel
theorem dX12_layLeft_55 : decode cX12_layLeft 55 = .ok (.iload_n 2, 1) := by decide +kernel
theorem dX12_layLeft_56 : decode cX12_layLeft 56 = .ok (.iconst (-1), 1) := by decide +kernel
theorem dX12_layLeft_57 : decode cX12_layLeft 57 = .ok (.if_icmp .eq 108, 3) := by decide +kernel
theorem dX12_layLeft_60 : decode cX12_layLeft 60 = .ok (.iconst 0, 1) := by decide +kernel
theorem dX12_layLeft_61 : decode cX12_layLeft 61 = .ok (.istore_n 3, 1) := by decide +kernel
theorem dX12_layLeft_62 : decode cX12_layLeft 62 = .ok (.iload_n 3, 1) := by decide +kernel
theorem dX12_layLeft_63 : decode cX12_layLeft 63 = .ok (.bipush 10, 2) := by decide +kernel
theorem dX12_layLeft_65 : decode cX12_layLeft 65 = .ok (.if_icmp .ge 90, 3) := by decide +kernel
theorem dX12_layLeft_68 : decode cX12_layLeft 68 = .ok (.aload_n 0, 1) := by decide +kernel
theorem dX12_layLeft_69 : decode cX12_layLeft 69 = .ok (.getfield 110, 3) := by decide +kernel
theorem dX12_layLeft_72 : decode cX12_layLeft 72 = .ok (.bipush 10, 2) := by decide +kernel
theorem dX12_layLeft_74 : decode cX12_layLeft 74 = .ok (.iload_n 2, 1) := by decide +kernel
theorem dX12_layLeft_75 : decode cX12_layLeft 75 = .ok (.imul, 1) := by decide +kernel
theorem dX12_layLeft_76 : decode cX12_layLeft 76 = .ok (.iload_n 3, 1) := by decide +kernel
theorem dX12_layLeft_77 : decode cX12_layLeft 77 = .ok (.iadd, 1) := by decide +kernel
theorem dX12_layLeft_78 : decode cX12_layLeft 78 = .ok (.iaload, 1) := by decide +kernel
theorem dX12_layLeft_79 : decode cX12_layLeft 79 = .ok (.istore 4, 2) := by decide +kernel
theorem dX12_layLeft_81 : decode cX12_layLeft 81 = .ok (.iload 4, 2) := by decide +kernel
theorem dX12_layLeft_83 : decode cX12_layLeft 83 = .ok (.bipush (-2), 2) := by decide +kernel
theorem dX12_layLeft_85 : decode cX12_layLeft 85 = .ok (.if_icmp .eq 64, 3) := by decide +kernel
theorem dX12_layLeft_88 : decode cX12_layLeft 88 = .ok (.aload_n 0, 1) := by decide +kernel
theorem dX12_layLeft_89 : decode cX12_layLeft 89 = .ok (.iload 4, 2) := by decide +kernel
theorem dX12_layLeft_91 : decode cX12_layLeft 91 = .ok (.iconst (-1), 1) := by decide +kernel
theorem dX12_layLeft_92 : decode cX12_layLeft 92 = .ok (.if_icmp .ne 16, 3) := by decide +kernel
theorem dX12_layLeft_95 : decode cX12_layLeft 95 = .ok (.aload_n 0, 1) := by decide +kernel
theorem dX12_layLeft_96 : decode cX12_layLeft 96 = .ok (.getfield 439, 3) := by decide +kernel
theorem dX12_layLeft_99 : decode cX12_layLeft 99 = .ok (.iconst 1, 1) := by decide +kernel
theorem dX12_layLeft_100 : decode cX12_layLeft 100 = .ok (.iload_n 3, 1) := by decide +kernel
theorem dX12_layLeft_101 : decode cX12_layLeft 101 = .ok (.ishl, 1) := by decide +kernel
theorem dX12_layLeft_102 : decode cX12_layLeft 102 = .ok (.iconst (-1), 1) := by decide +kernel
theorem dX12_layLeft_103 : decode cX12_layLeft 103 = .ok (.ixor, 1) := by decide +kernel
theorem dX12_layLeft_104 : decode cX12_layLeft 104 = .ok (.iand, 1) := by decide +kernel
theorem dX12_layLeft_105 : decode cX12_layLeft 105 = .ok (.goto 11, 3) := by decide +kernel
theorem dX12_layLeft_108 : decode cX12_layLeft 108 = .ok (.aload_n 0, 1) := by decide +kernel
theorem dX12_layLeft_109 : decode cX12_layLeft 109 = .ok (.getfield 439, 3) := by decide +kernel
theorem dX12_layLeft_112 : decode cX12_layLeft 112 = .ok (.iconst 1, 1) := by decide +kernel
theorem dX12_layLeft_113 : decode cX12_layLeft 113 = .ok (.iload_n 3, 1) := by decide +kernel
theorem dX12_layLeft_114 : decode cX12_layLeft 114 = .ok (.ishl, 1) := by decide +kernel
theorem dX12_layLeft_115 : decode cX12_layLeft 115 = .ok (.ior, 1) := by decide +kernel
theorem dX12_layLeft_116 : decode cX12_layLeft 116 = .ok (.putfield 439, 3) := by decide +kernel
theorem dX12_layLeft_119 : decode cX12_layLeft 119 = .ok (.aload_n 0, 1) := by decide +kernel
theorem dX12_layLeft_120 : decode cX12_layLeft 120 = .ok (.getfield 119, 3) := by decide +kernel
theorem dX12_layLeft_123 : decode cX12_layLeft 123 = .ok (.iload_n 3, 1) := by decide +kernel
theorem dX12_layLeft_124 : decode cX12_layLeft 124 = .ok (.iload 4, 2) := by decide +kernel
theorem dX12_layLeft_126 : decode cX12_layLeft 126 = .ok (.iconst (-1), 1) := by decide +kernel
theorem dX12_layLeft_127 : decode cX12_layLeft 127 = .ok (.if_icmp .ne 7, 3) := by decide +kernel
theorem dX12_layLeft_130 : decode cX12_layLeft 130 = .ok (.iconst 0, 1) := by decide +kernel
theorem dX12_layLeft_131 : decode cX12_layLeft 131 = .ok (.goto 5, 3) := by decide +kernel
theorem dX12_layLeft_134 : decode cX12_layLeft 134 = .ok (.iload 4, 2) := by decide +kernel
theorem dX12_layLeft_136 : decode cX12_layLeft 136 = .ok (.iastore, 1) := by decide +kernel
theorem dX12_layLeft_137 : decode cX12_layLeft 137 = .ok (.aload_n 0, 1) := by decide +kernel
theorem dX12_layLeft_138 : decode cX12_layLeft 138 = .ok (.getfield 122, 3) := by decide +kernel
theorem dX12_layLeft_141 : decode cX12_layLeft 141 = .ok (.iload_n 3, 1) := by decide +kernel
theorem dX12_layLeft_142 : decode cX12_layLeft 142 = .ok (.aload_n 0, 1) := by decide +kernel
theorem dX12_layLeft_143 : decode cX12_layLeft 143 = .ok (.getfield 95, 3) := by decide +kernel
theorem dX12_layLeft_146 : decode cX12_layLeft 146 = .ok (.iload_n 2, 1) := by decide +kernel
theorem dX12_layLeft_147 : decode cX12_layLeft 147 = .ok (.iaload, 1) := by decide +kernel
theorem dX12_layLeft_148 : decode cX12_layLeft 148 = .ok (.iastore, 1) := by decide +kernel
theorem dX12_layLeft_149 : decode cX12_layLeft 149 = .ok (.iinc 3 1, 3) := by decide +kernel
theorem dX12_layLeft_152 : decode cX12_layLeft 152 = .ok (.goto (-90), 3) := by decide +kernel
theorem dX12_layLeft_155 : decode cX12_layLeft 155 = .ok (.aload_n 0, 1) := by decide +kernel
theorem dX12_layLeft_156 : decode cX12_layLeft 156 = .ok (.iload_n 2, 1) := by decide +kernel
theorem dX12_layLeft_157 : decode cX12_layLeft 157 = .ok (.iload_n 1, 1) := by decide +kernel
theorem dX12_layLeft_158 : decode cX12_layLeft 158 = .ok (.invokevirtual 442, 3) := by decide +kernel
theorem dX12_layLeft_161 : decode cX12_layLeft 161 = .ok (.istore_n 2, 1) := by decide +kernel
theorem dX12_layLeft_162 : decode cX12_layLeft 162 = .ok (.goto (-107), 3) := by decide +kernel
theorem dX12_layLeft_165 : decode cX12_layLeft 165 = .ok (.return_, 1) := by decide +kernel
theorem dX12_loses_0 : decode cX12_loses 0 = .ok (.aload_n 0, 1) := by decide +kernel
theorem dX12_loses_1 : decode cX12_loses 1 = .ok (.invokevirtual 436, 3) := by decide +kernel
theorem dX12_loses_4 : decode cX12_loses 4 = .ok (.istore_n 1, 1) := by decide +kernel
theorem dX12_loses_5 : decode cX12_loses 5 = .ok (.iconst 0, 1) := by decide +kernel
theorem dX12_loses_6 : decode cX12_loses 6 = .ok (.istore_n 2, 1) := by decide +kernel
theorem dX12_loses_7 : decode cX12_loses 7 = .ok (.iconst 0, 1) := by decide +kernel
theorem dX12_loses_8 : decode cX12_loses 8 = .ok (.istore_n 3, 1) := by decide +kernel
theorem dX12_loses_9 : decode cX12_loses 9 = .ok (.iload_n 3, 1) := by decide +kernel
theorem dX12_loses_10 : decode cX12_loses 10 = .ok (.aload_n 0, 1) := by decide +kernel
theorem dX12_loses_11 : decode cX12_loses 11 = .ok (.getfield 345, 3) := by decide +kernel
theorem dX12_loses_14 : decode cX12_loses 14 = .ok (.if_icmp .ge 36, 3) := by decide +kernel
theorem dX12_loses_17 : decode cX12_loses 17 = .ok (.iload_n 2, 1) := by decide +kernel
theorem dX12_loses_18 : decode cX12_loses 18 = .ok (.aload_n 0, 1) := by decide +kernel
theorem dX12_loses_19 : decode cX12_loses 19 = .ok (.getfield 86, 3) := by decide +kernel
theorem dX12_loses_22 : decode cX12_loses 22 = .ok (.iload_n 3, 1) := by decide +kernel
theorem dX12_loses_23 : decode cX12_loses 23 = .ok (.iaload, 1) := by decide +kernel
theorem dX12_loses_24 : decode cX12_loses 24 = .ok (.iconst (-1), 1) := by decide +kernel
theorem dX12_loses_25 : decode cX12_loses 25 = .ok (.if_icmp .eq 16, 3) := by decide +kernel
theorem dX12_loses_28 : decode cX12_loses 28 = .ok (.aload_n 0, 1) := by decide +kernel
theorem dX12_loses_29 : decode cX12_loses 29 = .ok (.iload_n 3, 1) := by decide +kernel
theorem dX12_loses_30 : decode cX12_loses 30 = .ok (.iload_n 1, 1) := by decide +kernel
theorem dX12_loses_31 : decode cX12_loses 31 = .ok (.invokevirtual 433, 3) := by decide +kernel
theorem dX12_loses_34 : decode cX12_loses 34 = .ok (.ifCond .ne 7, 3) := by decide +kernel
theorem dX12_loses_37 : decode cX12_loses 37 = .ok (.iconst 1, 1) := by decide +kernel
theorem dX12_loses_38 : decode cX12_loses 38 = .ok (.goto 4, 3) := by decide +kernel
theorem dX12_loses_41 : decode cX12_loses 41 = .ok (.iconst 0, 1) := by decide +kernel
theorem dX12_loses_42 : decode cX12_loses 42 = .ok (.iadd, 1) := by decide +kernel
theorem dX12_loses_43 : decode cX12_loses 43 = .ok (.istore_n 2, 1) := by decide +kernel
theorem dX12_loses_44 : decode cX12_loses 44 = .ok (.iinc 3 1, 3) := by decide +kernel
theorem dX12_loses_47 : decode cX12_loses 47 = .ok (.goto (-38), 3) := by decide +kernel
theorem dX12_loses_50 : decode cX12_loses 50 = .ok (.iload_n 2, 1) := by decide +kernel
theorem dX12_loses_51 : decode cX12_loses 51 = .ok (.ireturn, 1) := by decide +kernel
theorem dX12_crash_0 : decode cX12_crash 0 = .ok (.aload_n 0, 1) := by decide +kernel
theorem dX12_crash_1 : decode cX12_crash 1 = .ok (.invokevirtual 436, 3) := by decide +kernel
theorem dX12_crash_4 : decode cX12_crash 4 = .ok (.istore_n 1, 1) := by decide +kernel
theorem dX12_crash_5 : decode cX12_crash 5 = .ok (.aload_n 0, 1) := by decide +kernel
theorem dX12_crash_6 : decode cX12_crash 6 = .ok (.invokevirtual 445, 3) := by decide +kernel
theorem dX12_crash_9 : decode cX12_crash 9 = .ok (.aload_n 0, 1) := by decide +kernel
theorem dX12_crash_10 : decode cX12_crash 10 = .ok (.dup, 1) := by decide +kernel
theorem dX12_crash_11 : decode cX12_crash 11 = .ok (.getfield 360, 3) := by decide +kernel
theorem dX12_crash_14 : decode cX12_crash 14 = .ok (.aload_n 0, 1) := by decide +kernel
theorem dX12_crash_15 : decode cX12_crash 15 = .ok (.invokevirtual 448, 3) := by decide +kernel
theorem dX12_crash_18 : decode cX12_crash 18 = .ok (.iadd, 1) := by decide +kernel
theorem dX12_crash_19 : decode cX12_crash 19 = .ok (.putfield 360, 3) := by decide +kernel
theorem dX12_crash_22 : decode cX12_crash 22 = .ok (.aload_n 0, 1) := by decide +kernel
theorem dX12_crash_23 : decode cX12_crash 23 = .ok (.dup, 1) := by decide +kernel
theorem dX12_crash_24 : decode cX12_crash 24 = .ok (.getfield 357, 3) := by decide +kernel
theorem dX12_crash_27 : decode cX12_crash 27 = .ok (.iconst 1, 1) := by decide +kernel
theorem dX12_crash_28 : decode cX12_crash 28 = .ok (.iadd, 1) := by decide +kernel
theorem dX12_crash_29 : decode cX12_crash 29 = .ok (.putfield 357, 3) := by decide +kernel
theorem dX12_crash_32 : decode cX12_crash 32 = .ok (.aload_n 0, 1) := by decide +kernel
theorem dX12_crash_33 : decode cX12_crash 33 = .ok (.aload_n 0, 1) := by decide +kernel
theorem dX12_crash_34 : decode cX12_crash 34 = .ok (.getfield 439, 3) := by decide +kernel
theorem dX12_crash_37 : decode cX12_crash 37 = .ok (.putfield 336, 3) := by decide +kernel
theorem dX12_crash_40 : decode cX12_crash 40 = .ok (.iconst 0, 1) := by decide +kernel
theorem dX12_crash_41 : decode cX12_crash 41 = .ok (.istore_n 2, 1) := by decide +kernel
theorem dX12_crash_42 : decode cX12_crash 42 = .ok (.iload_n 2, 1) := by decide +kernel
theorem dX12_crash_43 : decode cX12_crash 43 = .ok (.bipush 10, 2) := by decide +kernel
theorem dX12_crash_45 : decode cX12_crash 45 = .ok (.if_icmp .ge 40, 3) := by decide +kernel
theorem dX12_crash_48 : decode cX12_crash 48 = .ok (.aload_n 0, 1) := by decide +kernel
theorem dX12_crash_49 : decode cX12_crash 49 = .ok (.getfield 44, 3) := by decide +kernel
theorem dX12_crash_52 : decode cX12_crash 52 = .ok (.iload_n 2, 1) := by decide +kernel
theorem dX12_crash_53 : decode cX12_crash 53 = .ok (.aload_n 0, 1) := by decide +kernel
theorem dX12_crash_54 : decode cX12_crash 54 = .ok (.getfield 119, 3) := by decide +kernel
theorem dX12_crash_57 : decode cX12_crash 57 = .ok (.iload_n 2, 1) := by decide +kernel
theorem dX12_crash_58 : decode cX12_crash 58 = .ok (.iaload, 1) := by decide +kernel
theorem dX12_crash_59 : decode cX12_crash 59 = .ok (.iastore, 1) := by decide +kernel
theorem dX12_crash_60 : decode cX12_crash 60 = .ok (.aload_n 0, 1) := by decide +kernel
theorem dX12_crash_61 : decode cX12_crash 61 = .ok (.getfield 47, 3) := by decide +kernel
theorem dX12_crash_64 : decode cX12_crash 64 = .ok (.iload_n 2, 1) := by decide +kernel
theorem dX12_crash_65 : decode cX12_crash 65 = .ok (.aload_n 0, 1) := by decide +kernel
theorem dX12_crash_66 : decode cX12_crash 66 = .ok (.getfield 122, 3) := by decide +kernel
theorem dX12_crash_69 : decode cX12_crash 69 = .ok (.iload_n 2, 1) := by decide +kernel
theorem dX12_crash_70 : decode cX12_crash 70 = .ok (.iaload, 1) := by decide +kernel
theorem dX12_crash_71 : decode cX12_crash 71 = .ok (.iastore, 1) := by decide +kernel
theorem dX12_crash_72 : decode cX12_crash 72 = .ok (.aload_n 0, 1) := by decide +kernel
theorem dX12_crash_73 : decode cX12_crash 73 = .ok (.getfield 50, 3) := by decide +kernel
theorem dX12_crash_76 : decode cX12_crash 76 = .ok (.iload_n 2, 1) := by decide +kernel
theorem dX12_crash_77 : decode cX12_crash 77 = .ok (.iconst 0, 1) := by decide +kernel
theorem dX12_crash_78 : decode cX12_crash 78 = .ok (.iastore, 1) := by decide +kernel
theorem dX12_crash_79 : decode cX12_crash 79 = .ok (.iinc 2 1, 3) := by decide +kernel
theorem dX12_crash_82 : decode cX12_crash 82 = .ok (.goto (-40), 3) := by decide +kernel
theorem dX12_crash_85 : decode cX12_crash 85 = .ok (.iconst 0, 1) := by decide +kernel
theorem dX12_crash_86 : decode cX12_crash 86 = .ok (.istore_n 2, 1) := by decide +kernel
theorem dX12_crash_87 : decode cX12_crash 87 = .ok (.iload_n 2, 1) := by decide +kernel
theorem dX12_crash_88 : decode cX12_crash 88 = .ok (.aload_n 0, 1) := by decide +kernel
theorem dX12_crash_89 : decode cX12_crash 89 = .ok (.getfield 345, 3) := by decide +kernel
theorem dX12_crash_92 : decode cX12_crash 92 = .ok (.if_icmp .ge 34, 3) := by decide +kernel
theorem dX12_crash_95 : decode cX12_crash 95 = .ok (.aload_n 0, 1) := by decide +kernel
theorem dX12_crash_96 : decode cX12_crash 96 = .ok (.getfield 86, 3) := by decide +kernel
theorem dX12_crash_99 : decode cX12_crash 99 = .ok (.iload_n 2, 1) := by decide +kernel
theorem dX12_crash_100 : decode cX12_crash 100 = .ok (.aload_n 0, 1) := by decide +kernel
theorem dX12_crash_101 : decode cX12_crash 101 = .ok (.iload_n 2, 1) := by decide +kernel
theorem dX12_crash_102 : decode cX12_crash 102 = .ok (.iload_n 1, 1) := by decide +kernel
theorem dX12_crash_103 : decode cX12_crash 103 = .ok (.invokevirtual 433, 3) := by decide +kernel
theorem dX12_crash_106 : decode cX12_crash 106 = .ok (.ifCond .eq 12, 3) := by decide +kernel
theorem dX12_crash_109 : decode cX12_crash 109 = .ok (.aload_n 0, 1) := by decide +kernel
theorem dX12_crash_110 : decode cX12_crash 110 = .ok (.getfield 86, 3) := by decide +kernel
theorem dX12_crash_113 : decode cX12_crash 113 = .ok (.iload_n 2, 1) := by decide +kernel
theorem dX12_crash_114 : decode cX12_crash 114 = .ok (.iaload, 1) := by decide +kernel
theorem dX12_crash_115 : decode cX12_crash 115 = .ok (.goto 4, 3) := by decide +kernel
theorem dX12_crash_118 : decode cX12_crash 118 = .ok (.iconst (-1), 1) := by decide +kernel
theorem dX12_crash_119 : decode cX12_crash 119 = .ok (.iastore, 1) := by decide +kernel
theorem dX12_crash_120 : decode cX12_crash 120 = .ok (.iinc 2 1, 3) := by decide +kernel
theorem dX12_crash_123 : decode cX12_crash 123 = .ok (.goto (-36), 3) := by decide +kernel
theorem dX12_crash_126 : decode cX12_crash 126 = .ok (.iconst 0, 1) := by decide +kernel
theorem dX12_crash_127 : decode cX12_crash 127 = .ok (.istore_n 2, 1) := by decide +kernel
theorem dX12_crash_128 : decode cX12_crash 128 = .ok (.iload_n 2, 1) := by decide +kernel
theorem dX12_crash_129 : decode cX12_crash 129 = .ok (.aload_n 0, 1) := by decide +kernel
theorem dX12_crash_130 : decode cX12_crash 130 = .ok (.getfield 326, 3) := by decide +kernel
theorem dX12_crash_133 : decode cX12_crash 133 = .ok (.if_icmp .ge 43, 3) := by decide +kernel
theorem dX12_crash_136 : decode cX12_crash 136 = .ok (.aload_n 0, 1) := by decide +kernel
theorem dX12_crash_137 : decode cX12_crash 137 = .ok (.dup, 1) := by decide +kernel
theorem dX12_crash_138 : decode cX12_crash 138 = .ok (.getfield 354, 3) := by decide +kernel
theorem dX12_crash_141 : decode cX12_crash 141 = .ok (.aload_n 0, 1) := by decide +kernel
theorem dX12_crash_142 : decode cX12_crash 142 = .ok (.getfield 62, 3) := by decide +kernel
theorem dX12_crash_145 : decode cX12_crash 145 = .ok (.iload_n 2, 1) := by decide +kernel
theorem dX12_crash_146 : decode cX12_crash 146 = .ok (.iaload, 1) := by decide +kernel
theorem dX12_crash_147 : decode cX12_crash 147 = .ok (.iadd, 1) := by decide +kernel
theorem dX12_crash_148 : decode cX12_crash 148 = .ok (.putfield 354, 3) := by decide +kernel
theorem dX12_crash_151 : decode cX12_crash 151 = .ok (.aload_n 0, 1) := by decide +kernel
theorem dX12_crash_152 : decode cX12_crash 152 = .ok (.iload_n 2, 1) := by decide +kernel
theorem dX12_crash_153 : decode cX12_crash 153 = .ok (.invokevirtual 363, 3) := by decide +kernel
theorem dX12_crash_156 : decode cX12_crash 156 = .ok (.aload_n 0, 1) := by decide +kernel
theorem dX12_crash_157 : decode cX12_crash 157 = .ok (.getfield 71, 3) := by decide +kernel
theorem dX12_crash_160 : decode cX12_crash 160 = .ok (.iload_n 2, 1) := by decide +kernel
theorem dX12_crash_161 : decode cX12_crash 161 = .ok (.iconst 0, 1) := by decide +kernel
theorem dX12_crash_162 : decode cX12_crash 162 = .ok (.iastore, 1) := by decide +kernel
theorem dX12_crash_163 : decode cX12_crash 163 = .ok (.aload_n 0, 1) := by decide +kernel
theorem dX12_crash_164 : decode cX12_crash 164 = .ok (.getfield 74, 3) := by decide +kernel
theorem dX12_crash_167 : decode cX12_crash 167 = .ok (.iload_n 2, 1) := by decide +kernel
theorem dX12_crash_168 : decode cX12_crash 168 = .ok (.iload_n 1, 1) := by decide +kernel
theorem dX12_crash_169 : decode cX12_crash 169 = .ok (.iastore, 1) := by decide +kernel
theorem dX12_crash_170 : decode cX12_crash 170 = .ok (.iinc 2 1, 3) := by decide +kernel
theorem dX12_crash_173 : decode cX12_crash 173 = .ok (.goto (-45), 3) := by decide +kernel
theorem dX12_crash_176 : decode cX12_crash 176 = .ok (.aload_n 0, 1) := by decide +kernel
theorem dX12_crash_177 : decode cX12_crash 177 = .ok (.iload_n 1, 1) := by decide +kernel
theorem dX12_crash_178 : decode cX12_crash 178 = .ok (.iconst 1, 1) := by decide +kernel
theorem dX12_crash_179 : decode cX12_crash 179 = .ok (.iadd, 1) := by decide +kernel
theorem dX12_crash_180 : decode cX12_crash 180 = .ok (.putfield 342, 3) := by decide +kernel
theorem dX12_crash_183 : decode cX12_crash 183 = .ok (.iconst 1, 1) := by decide +kernel
theorem dX12_crash_184 : decode cX12_crash 184 = .ok (.ireturn, 1) := by decide +kernel
theorem dX12_does_0 : decode cX12_does 0 = .ok (.iload_n 1, 1) := by decide +kernel
theorem dX12_does_1 : decode cX12_does 1 = .ok (.ifCond .ne 8, 3) := by decide +kernel
theorem dX12_does_4 : decode cX12_does 4 = .ok (.aload_n 0, 1) := by decide +kernel
theorem dX12_does_5 : decode cX12_does 5 = .ok (.invokevirtual 451, 3) := by decide +kernel
theorem dX12_does_8 : decode cX12_does 8 = .ok (.ireturn, 1) := by decide +kernel
theorem dX12_does_9 : decode cX12_does 9 = .ok (.iload_n 1, 1) := by decide +kernel
theorem dX12_does_10 : decode cX12_does 10 = .ok (.iconst 1, 1) := by decide +kernel
theorem dX12_does_11 : decode cX12_does 11 = .ok (.if_icmp .ne 8, 3) := by decide +kernel
theorem dX12_does_14 : decode cX12_does 14 = .ok (.aload_n 0, 1) := by decide +kernel
theorem dX12_does_15 : decode cX12_does 15 = .ok (.invokevirtual 454, 3) := by decide +kernel
theorem dX12_does_18 : decode cX12_does 18 = .ok (.ireturn, 1) := by decide +kernel
theorem dX12_does_19 : decode cX12_does 19 = .ok (.aload_n 0, 1) := by decide +kernel
theorem dX12_does_20 : decode cX12_does 20 = .ok (.iload_n 2, 1) := by decide +kernel
theorem dX12_does_21 : decode cX12_does 21 = .ok (.invokevirtual 457, 3) := by decide +kernel
theorem dX12_does_24 : decode cX12_does 24 = .ok (.ifCond .ne 5, 3) := by decide +kernel
theorem dX12_does_27 : decode cX12_does 27 = .ok (.iconst 0, 1) := by decide +kernel
theorem dX12_does_28 : decode cX12_does 28 = .ok (.ireturn, 1) := by decide +kernel
theorem dX12_does_29 : decode cX12_does 29 = .ok (.iload_n 1, 1) := by decide +kernel
theorem dX12_does_30 : decode cX12_does 30 = .ok (.tableswitch 85 2 5 #[30, 36, 44, 78], 30) := by decide +kernel
theorem dX12_does_60 : decode cX12_does 60 = .ok (.aload_n 0, 1) := by decide +kernel
theorem dX12_does_61 : decode cX12_does 61 = .ok (.iload_n 2, 1) := by decide +kernel
theorem dX12_does_62 : decode cX12_does 62 = .ok (.invokevirtual 460, 3) := by decide +kernel
theorem dX12_does_65 : decode cX12_does 65 = .ok (.ireturn, 1) := by decide +kernel
theorem dX12_does_66 : decode cX12_does 66 = .ok (.aload_n 0, 1) := by decide +kernel
theorem dX12_does_67 : decode cX12_does 67 = .ok (.iload_n 2, 1) := by decide +kernel
theorem dX12_does_68 : decode cX12_does 68 = .ok (.iload 4, 2) := by decide +kernel
theorem dX12_does_70 : decode cX12_does 70 = .ok (.invokevirtual 463, 3) := by decide +kernel
theorem dX12_does_73 : decode cX12_does 73 = .ok (.ireturn, 1) := by decide +kernel
theorem dX12_does_74 : decode cX12_does 74 = .ok (.aload_n 0, 1) := by decide +kernel
theorem dX12_does_75 : decode cX12_does 75 = .ok (.getfield 59, 3) := by decide +kernel
theorem dX12_does_78 : decode cX12_does 78 = .ok (.iload_n 2, 1) := by decide +kernel
theorem dX12_does_79 : decode cX12_does 79 = .ok (.iaload, 1) := by decide +kernel
theorem dX12_does_80 : decode cX12_does 80 = .ok (.iconst (-1), 1) := by decide +kernel
theorem dX12_does_81 : decode cX12_does 81 = .ok (.if_icmp .ne 5, 3) := by decide +kernel
theorem dX12_does_84 : decode cX12_does 84 = .ok (.iconst 0, 1) := by decide +kernel
theorem dX12_does_85 : decode cX12_does 85 = .ok (.ireturn, 1) := by decide +kernel
theorem dX12_does_86 : decode cX12_does 86 = .ok (.aload_n 0, 1) := by decide +kernel
theorem dX12_does_87 : decode cX12_does 87 = .ok (.dup, 1) := by decide +kernel
theorem dX12_does_88 : decode cX12_does 88 = .ok (.getfield 354, 3) := by decide +kernel
theorem dX12_does_91 : decode cX12_does 91 = .ok (.aload_n 0, 1) := by decide +kernel
theorem dX12_does_92 : decode cX12_does 92 = .ok (.getfield 62, 3) := by decide +kernel
theorem dX12_does_95 : decode cX12_does 95 = .ok (.iload_n 2, 1) := by decide +kernel
theorem dX12_does_96 : decode cX12_does 96 = .ok (.iaload, 1) := by decide +kernel
theorem dX12_does_97 : decode cX12_does 97 = .ok (.iadd, 1) := by decide +kernel
theorem dX12_does_98 : decode cX12_does 98 = .ok (.putfield 354, 3) := by decide +kernel
theorem dX12_does_101 : decode cX12_does 101 = .ok (.aload_n 0, 1) := by decide +kernel
theorem dX12_does_102 : decode cX12_does 102 = .ok (.iload_n 2, 1) := by decide +kernel
theorem dX12_does_103 : decode cX12_does 103 = .ok (.invokevirtual 363, 3) := by decide +kernel
theorem dX12_does_106 : decode cX12_does 106 = .ok (.iconst 1, 1) := by decide +kernel
theorem dX12_does_107 : decode cX12_does 107 = .ok (.ireturn, 1) := by decide +kernel
theorem dX12_does_108 : decode cX12_does 108 = .ok (.aload_n 0, 1) := by decide +kernel
theorem dX12_does_109 : decode cX12_does 109 = .ok (.iload_n 2, 1) := by decide +kernel
theorem dX12_does_110 : decode cX12_does 110 = .ok (.invokevirtual 466, 3) := by decide +kernel
theorem dX12_does_113 : decode cX12_does 113 = .ok (.iconst 1, 1) := by decide +kernel
theorem dX12_does_114 : decode cX12_does 114 = .ok (.ireturn, 1) := by decide +kernel
theorem dX12_does_115 : decode cX12_does 115 = .ok (.aload_n 0, 1) := by decide +kernel
theorem dX12_does_116 : decode cX12_does 116 = .ok (.getfield 59, 3) := by decide +kernel
theorem dX12_does_119 : decode cX12_does 119 = .ok (.iload_n 2, 1) := by decide +kernel
theorem dX12_does_120 : decode cX12_does 120 = .ok (.iaload, 1) := by decide +kernel
theorem dX12_does_121 : decode cX12_does 121 = .ok (.iconst (-1), 1) := by decide +kernel
theorem dX12_does_122 : decode cX12_does 122 = .ok (.if_icmp .ne 11, 3) := by decide +kernel
theorem dX12_does_125 : decode cX12_does 125 = .ok (.aload_n 0, 1) := by decide +kernel
theorem dX12_does_126 : decode cX12_does 126 = .ok (.iload_n 3, 1) := by decide +kernel
theorem dX12_does_127 : decode cX12_does 127 = .ok (.invokevirtual 378, 3) := by decide +kernel
theorem dX12_does_130 : decode cX12_does 130 = .ok (.ifCond .ne 5, 3) := by decide +kernel
theorem dX12_does_133 : decode cX12_does 133 = .ok (.iconst 0, 1) := by decide +kernel
theorem dX12_does_134 : decode cX12_does 134 = .ok (.ireturn, 1) := by decide +kernel
theorem dX12_does_135 : decode cX12_does 135 = .ok (.aload_n 0, 1) := by decide +kernel
theorem dX12_does_136 : decode cX12_does 136 = .ok (.iload_n 2, 1) := by decide +kernel
theorem dX12_does_137 : decode cX12_does 137 = .ok (.iload_n 3, 1) := by decide +kernel
theorem dX12_does_138 : decode cX12_does 138 = .ok (.invokevirtual 469, 3) := by decide +kernel
theorem dX12_does_141 : decode cX12_does 141 = .ok (.iconst 1, 1) := by decide +kernel
theorem dX12_does_142 : decode cX12_does 142 = .ok (.ireturn, 1) := by decide +kernel
theorem dX12_deeds_0 : decode cX12_deeds 0 = .ok (.aload_n 0, 1) := by decide +kernel
theorem dX12_deeds_1 : decode cX12_deeds 1 = .ok (.getfield 32, 3) := by decide +kernel
theorem dX12_deeds_4 : decode cX12_deeds 4 = .ok (.bipush 121, 2) := by decide +kernel
theorem dX12_deeds_6 : decode cX12_deeds 6 = .ok (.aload_n 0, 1) := by decide +kernel
theorem dX12_deeds_7 : decode cX12_deeds 7 = .ok (.getfield 471, 3) := by decide +kernel
theorem dX12_deeds_10 : decode cX12_deeds 10 = .ok (.imul, 1) := by decide +kernel
theorem dX12_deeds_11 : decode cX12_deeds 11 = .ok (.iaload, 1) := by decide +kernel
theorem dX12_deeds_12 : decode cX12_deeds 12 = .ok (.ireturn, 1) := by decide +kernel
theorem dX12_deedOf_0 : decode cX12_deedOf 0 = .ok (.aload_n 0, 1) := by decide +kernel
theorem dX12_deedOf_1 : decode cX12_deedOf 1 = .ok (.getfield 32, 3) := by decide +kernel
theorem dX12_deedOf_4 : decode cX12_deedOf 4 = .ok (.bipush 121, 2) := by decide +kernel
theorem dX12_deedOf_6 : decode cX12_deedOf 6 = .ok (.aload_n 0, 1) := by decide +kernel
theorem dX12_deedOf_7 : decode cX12_deedOf 7 = .ok (.getfield 471, 3) := by decide +kernel
theorem dX12_deedOf_10 : decode cX12_deedOf 10 = .ok (.imul, 1) := by decide +kernel
theorem dX12_deedOf_11 : decode cX12_deedOf 11 = .ok (.iconst 1, 1) := by decide +kernel
theorem dX12_deedOf_12 : decode cX12_deedOf 12 = .ok (.iadd, 1) := by decide +kernel
theorem dX12_deedOf_13 : decode cX12_deedOf 13 = .ok (.iconst 3, 1) := by decide +kernel
theorem dX12_deedOf_14 : decode cX12_deedOf 14 = .ok (.iload_n 1, 1) := by decide +kernel
theorem dX12_deedOf_15 : decode cX12_deedOf 15 = .ok (.imul, 1) := by decide +kernel
theorem dX12_deedOf_16 : decode cX12_deedOf 16 = .ok (.iadd, 1) := by decide +kernel
theorem dX12_deedOf_17 : decode cX12_deedOf 17 = .ok (.iload_n 2, 1) := by decide +kernel
theorem dX12_deedOf_18 : decode cX12_deedOf 18 = .ok (.iadd, 1) := by decide +kernel
theorem dX12_deedOf_19 : decode cX12_deedOf 19 = .ok (.iaload, 1) := by decide +kernel
theorem dX12_deedOf_20 : decode cX12_deedOf 20 = .ok (.ireturn, 1) := by decide +kernel
theorem dX12_hasPlan_0 : decode cX12_hasPlan 0 = .ok (.aload_n 0, 1) := by decide +kernel
theorem dX12_hasPlan_1 : decode cX12_hasPlan 1 = .ok (.iload_n 1, 1) := by decide +kernel
theorem dX12_hasPlan_2 : decode cX12_hasPlan 2 = .ok (.putfield 471, 3) := by decide +kernel
theorem dX12_hasPlan_5 : decode cX12_hasPlan 5 = .ok (.aload_n 0, 1) := by decide +kernel
theorem dX12_hasPlan_6 : decode cX12_hasPlan 6 = .ok (.iconst 2, 1) := by decide +kernel
theorem dX12_hasPlan_7 : decode cX12_hasPlan 7 = .ok (.iload_n 1, 1) := by decide +kernel
theorem dX12_hasPlan_8 : decode cX12_hasPlan 8 = .ok (.invokevirtual 305, 3) := by decide +kernel
theorem dX12_hasPlan_11 : decode cX12_hasPlan 11 = .ok (.ireturn, 1) := by decide +kernel
theorem dX12_deed_0 : decode cX12_deed 0 = .ok (.aload_n 0, 1) := by decide +kernel
theorem dX12_deed_1 : decode cX12_deed 1 = .ok (.iconst 0, 1) := by decide +kernel
theorem dX12_deed_2 : decode cX12_deed 2 = .ok (.putfield 144, 3) := by decide +kernel
theorem dX12_deed_5 : decode cX12_deed 5 = .ok (.aload_n 0, 1) := by decide +kernel
theorem dX12_deed_6 : decode cX12_deed 6 = .ok (.iload_n 1, 1) := by decide +kernel
theorem dX12_deed_7 : decode cX12_deed 7 = .ok (.invokevirtual 474, 3) := by decide +kernel
theorem dX12_deed_10 : decode cX12_deed 10 = .ok (.ifCond .ne 6, 3) := by decide +kernel
theorem dX12_deed_13 : decode cX12_deed 13 = .ok (.bipush (-2), 2) := by decide +kernel
theorem dX12_deed_15 : decode cX12_deed 15 = .ok (.ireturn, 1) := by decide +kernel
theorem dX12_deed_16 : decode cX12_deed 16 = .ok (.iload_n 2, 1) := by decide +kernel
theorem dX12_deed_17 : decode cX12_deed 17 = .ok (.iconst (-1), 1) := by decide +kernel
theorem dX12_deed_18 : decode cX12_deed 18 = .ok (.if_icmp .ne 17, 3) := by decide +kernel
theorem dX12_deed_21 : decode cX12_deed 21 = .ok (.iload_n 3, 1) := by decide +kernel
theorem dX12_deed_22 : decode cX12_deed 22 = .ok (.ifCond .ne 10, 3) := by decide +kernel
theorem dX12_deed_25 : decode cX12_deed 25 = .ok (.aload_n 0, 1) := by decide +kernel
theorem dX12_deed_26 : decode cX12_deed 26 = .ok (.invokevirtual 477, 3) := by decide +kernel
theorem dX12_deed_29 : decode cX12_deed 29 = .ok (.goto 5, 3) := by decide +kernel
theorem dX12_deed_32 : decode cX12_deed 32 = .ok (.bipush (-2), 2) := by decide +kernel
theorem dX12_deed_34 : decode cX12_deed 34 = .ok (.ireturn, 1) := by decide +kernel
theorem dX12_deed_35 : decode cX12_deed 35 = .ok (.iload_n 2, 1) := by decide +kernel
theorem dX12_deed_36 : decode cX12_deed 36 = .ok (.iconst 0, 1) := by decide +kernel
theorem dX12_deed_37 : decode cX12_deed 37 = .ok (.aload_n 0, 1) := by decide +kernel
theorem dX12_deed_38 : decode cX12_deed 38 = .ok (.invokevirtual 477, 3) := by decide +kernel
theorem dX12_deed_41 : decode cX12_deed 41 = .ok (.iconst 1, 1) := by decide +kernel
theorem dX12_deed_42 : decode cX12_deed 42 = .ok (.isub, 1) := by decide +kernel
theorem dX12_deed_43 : decode cX12_deed 43 = .ok (.invokestatic 156, 3) := by decide +kernel
theorem dX12_deed_46 : decode cX12_deed 46 = .ok (.ifCond .eq 21, 3) := by decide +kernel
theorem dX12_deed_49 : decode cX12_deed 49 = .ok (.iload_n 3, 1) := by decide +kernel
theorem dX12_deed_50 : decode cX12_deed 50 = .ok (.iconst 0, 1) := by decide +kernel
theorem dX12_deed_51 : decode cX12_deed 51 = .ok (.iconst 2, 1) := by decide +kernel
theorem dX12_deed_52 : decode cX12_deed 52 = .ok (.invokestatic 156, 3) := by decide +kernel
theorem dX12_deed_55 : decode cX12_deed 55 = .ok (.ifCond .eq 12, 3) := by decide +kernel
theorem dX12_deed_58 : decode cX12_deed 58 = .ok (.aload_n 0, 1) := by decide +kernel
theorem dX12_deed_59 : decode cX12_deed 59 = .ok (.iload_n 2, 1) := by decide +kernel
theorem dX12_deed_60 : decode cX12_deed 60 = .ok (.iload_n 3, 1) := by decide +kernel
theorem dX12_deed_61 : decode cX12_deed 61 = .ok (.invokevirtual 480, 3) := by decide +kernel
theorem dX12_deed_64 : decode cX12_deed 64 = .ok (.goto 5, 3) := by decide +kernel
theorem dX12_deed_67 : decode cX12_deed 67 = .ok (.bipush (-2), 2) := by decide +kernel
theorem dX12_deed_69 : decode cX12_deed 69 = .ok (.ireturn, 1) := by decide +kernel
theorem dX12_play_0 : decode cX12_play 0 = .ok (.iconst 0, 1) := by decide +kernel
theorem dX12_play_1 : decode cX12_play 1 = .ok (.istore_n 2, 1) := by decide +kernel
theorem dX12_play_2 : decode cX12_play 2 = .ok (.iload_n 2, 1) := by decide +kernel
theorem dX12_play_3 : decode cX12_play 3 = .ok (.iload_n 1, 1) := by decide +kernel
theorem dX12_play_4 : decode cX12_play 4 = .ok (.if_icmp .ge 35, 3) := by decide +kernel
theorem dX12_play_7 : decode cX12_play 7 = .ok (.aload_n 0, 1) := by decide +kernel
theorem dX12_play_8 : decode cX12_play 8 = .ok (.aload_n 0, 1) := by decide +kernel
theorem dX12_play_9 : decode cX12_play 9 = .ok (.iload_n 2, 1) := by decide +kernel
theorem dX12_play_10 : decode cX12_play 10 = .ok (.iconst 0, 1) := by decide +kernel
theorem dX12_play_11 : decode cX12_play 11 = .ok (.invokevirtual 480, 3) := by decide +kernel
theorem dX12_play_14 : decode cX12_play 14 = .ok (.aload_n 0, 1) := by decide +kernel
theorem dX12_play_15 : decode cX12_play 15 = .ok (.iload_n 2, 1) := by decide +kernel
theorem dX12_play_16 : decode cX12_play 16 = .ok (.iconst 1, 1) := by decide +kernel
theorem dX12_play_17 : decode cX12_play 17 = .ok (.invokevirtual 480, 3) := by decide +kernel
theorem dX12_play_20 : decode cX12_play 20 = .ok (.aload_n 0, 1) := by decide +kernel
theorem dX12_play_21 : decode cX12_play 21 = .ok (.iload_n 2, 1) := by decide +kernel
theorem dX12_play_22 : decode cX12_play 22 = .ok (.iconst 2, 1) := by decide +kernel
theorem dX12_play_23 : decode cX12_play 23 = .ok (.invokevirtual 480, 3) := by decide +kernel
theorem dX12_play_26 : decode cX12_play 26 = .ok (.iload_n 2, 1) := by decide +kernel
theorem dX12_play_27 : decode cX12_play 27 = .ok (.invokevirtual 483, 3) := by decide +kernel
theorem dX12_play_30 : decode cX12_play 30 = .ok (.ifCond .eq 9, 3) := by decide +kernel
theorem dX12_play_33 : decode cX12_play 33 = .ok (.iinc 2 1, 3) := by decide +kernel
theorem dX12_play_36 : decode cX12_play 36 = .ok (.goto (-34), 3) := by decide +kernel
theorem dX12_play_39 : decode cX12_play 39 = .ok (.iload_n 2, 1) := by decide +kernel
theorem dX12_play_40 : decode cX12_play 40 = .ok (.ireturn, 1) := by decide +kernel
theorem dX12_layAll_0 : decode cX12_layAll 0 = .ok (.aload_n 0, 1) := by decide +kernel
theorem dX12_layAll_1 : decode cX12_layAll 1 = .ok (.iload_n 3, 1) := by decide +kernel
theorem dX12_layAll_2 : decode cX12_layAll 2 = .ok (.invokevirtual 474, 3) := by decide +kernel
theorem dX12_layAll_5 : decode cX12_layAll 5 = .ok (.ifCond .eq 16, 3) := by decide +kernel
theorem dX12_layAll_8 : decode cX12_layAll 8 = .ok (.aload_n 0, 1) := by decide +kernel
theorem dX12_layAll_9 : decode cX12_layAll 9 = .ok (.iload_n 1, 1) := by decide +kernel
theorem dX12_layAll_10 : decode cX12_layAll 10 = .ok (.iload_n 2, 1) := by decide +kernel
theorem dX12_layAll_11 : decode cX12_layAll 11 = .ok (.invokevirtual 487, 3) := by decide +kernel
theorem dX12_layAll_14 : decode cX12_layAll 14 = .ok (.ifCond .eq 7, 3) := by decide +kernel
theorem dX12_layAll_17 : decode cX12_layAll 17 = .ok (.iconst 1, 1) := by decide +kernel
theorem dX12_layAll_18 : decode cX12_layAll 18 = .ok (.goto 4, 3) := by decide +kernel
theorem dX12_layAll_21 : decode cX12_layAll 21 = .ok (.iconst 0, 1) := by decide +kernel
theorem dX12_layAll_22 : decode cX12_layAll 22 = .ok (.ireturn, 1) := by decide +kernel
theorem dX12_stop_0 : decode cX12_stop 0 = .ok (.aload_n 0, 1) := by decide +kernel
theorem dX12_stop_1 : decode cX12_stop 1 = .ok (.iconst 0, 1) := by decide +kernel
theorem dX12_stop_2 : decode cX12_stop 2 = .ok (.putfield 144, 3) := by decide +kernel
theorem dX12_stop_5 : decode cX12_stop 5 = .ok (.aload_n 0, 1) := by decide +kernel
theorem dX12_stop_6 : decode cX12_stop 6 = .ok (.iload_n 1, 1) := by decide +kernel
theorem dX12_stop_7 : decode cX12_stop 7 = .ok (.iload_n 2, 1) := by decide +kernel
theorem dX12_stop_8 : decode cX12_stop 8 = .ok (.iload_n 3, 1) := by decide +kernel
theorem dX12_stop_9 : decode cX12_stop 9 = .ok (.invokevirtual 490, 3) := by decide +kernel
theorem dX12_stop_12 : decode cX12_stop 12 = .ok (.ifCond .eq 14, 3) := by decide +kernel
theorem dX12_stop_15 : decode cX12_stop 15 = .ok (.aload_n 0, 1) := by decide +kernel
theorem dX12_stop_16 : decode cX12_stop 16 = .ok (.aload_n 0, 1) := by decide +kernel
theorem dX12_stop_17 : decode cX12_stop 17 = .ok (.invokevirtual 477, 3) := by decide +kernel
theorem dX12_stop_20 : decode cX12_stop 20 = .ok (.invokevirtual 493, 3) := by decide +kernel
theorem dX12_stop_23 : decode cX12_stop 23 = .ok (.goto 4, 3) := by decide +kernel
theorem dX12_stop_26 : decode cX12_stop 26 = .ok (.iconst (-1), 1) := by decide +kernel
theorem dX12_stop_27 : decode cX12_stop 27 = .ok (.ireturn, 1) := by decide +kernel
theorem dX12_linesOf_0 : decode cX12_linesOf 0 = .ok (.iconst 0, 1) := by decide +kernel
theorem dX12_linesOf_1 : decode cX12_linesOf 1 = .ok (.istore_n 3, 1) := by decide +kernel
theorem dX12_linesOf_2 : decode cX12_linesOf 2 = .ok (.iconst 0, 1) := by decide +kernel
theorem dX12_linesOf_3 : decode cX12_linesOf 3 = .ok (.istore 4, 2) := by decide +kernel
theorem dX12_linesOf_5 : decode cX12_linesOf 5 = .ok (.iload 4, 2) := by decide +kernel
theorem dX12_linesOf_7 : decode cX12_linesOf 7 = .ok (.aload_n 0, 1) := by decide +kernel
theorem dX12_linesOf_8 : decode cX12_linesOf 8 = .ok (.getfield 345, 3) := by decide +kernel
theorem dX12_linesOf_11 : decode cX12_linesOf 11 = .ok (.if_icmp .ge 43, 3) := by decide +kernel
theorem dX12_linesOf_14 : decode cX12_linesOf 14 = .ok (.iload_n 3, 1) := by decide +kernel
theorem dX12_linesOf_15 : decode cX12_linesOf 15 = .ok (.aload_n 0, 1) := by decide +kernel
theorem dX12_linesOf_16 : decode cX12_linesOf 16 = .ok (.getfield 86, 3) := by decide +kernel
theorem dX12_linesOf_19 : decode cX12_linesOf 19 = .ok (.iload 4, 2) := by decide +kernel
theorem dX12_linesOf_21 : decode cX12_linesOf 21 = .ok (.iaload, 1) := by decide +kernel
theorem dX12_linesOf_22 : decode cX12_linesOf 22 = .ok (.iload_n 1, 1) := by decide +kernel
theorem dX12_linesOf_23 : decode cX12_linesOf 23 = .ok (.if_icmp .ne 22, 3) := by decide +kernel
theorem dX12_linesOf_26 : decode cX12_linesOf 26 = .ok (.iload_n 2, 1) := by decide +kernel
theorem dX12_linesOf_27 : decode cX12_linesOf 27 = .ok (.ifCond .eq 14, 3) := by decide +kernel
theorem dX12_linesOf_30 : decode cX12_linesOf 30 = .ok (.aload_n 0, 1) := by decide +kernel
theorem dX12_linesOf_31 : decode cX12_linesOf 31 = .ok (.getfield 98, 3) := by decide +kernel
theorem dX12_linesOf_34 : decode cX12_linesOf 34 = .ok (.iload 4, 2) := by decide +kernel
theorem dX12_linesOf_36 : decode cX12_linesOf 36 = .ok (.iaload, 1) := by decide +kernel
theorem dX12_linesOf_37 : decode cX12_linesOf 37 = .ok (.iconst 1, 1) := by decide +kernel
theorem dX12_linesOf_38 : decode cX12_linesOf 38 = .ok (.if_icmp .ne 7, 3) := by decide +kernel
theorem dX12_linesOf_41 : decode cX12_linesOf 41 = .ok (.iconst 1, 1) := by decide +kernel
theorem dX12_linesOf_42 : decode cX12_linesOf 42 = .ok (.goto 4, 3) := by decide +kernel
theorem dX12_linesOf_45 : decode cX12_linesOf 45 = .ok (.iconst 0, 1) := by decide +kernel
theorem dX12_linesOf_46 : decode cX12_linesOf 46 = .ok (.iadd, 1) := by decide +kernel
theorem dX12_linesOf_47 : decode cX12_linesOf 47 = .ok (.istore_n 3, 1) := by decide +kernel
theorem dX12_linesOf_48 : decode cX12_linesOf 48 = .ok (.iinc 4 1, 3) := by decide +kernel
theorem dX12_linesOf_51 : decode cX12_linesOf 51 = .ok (.goto (-46), 3) := by decide +kernel
theorem dX12_linesOf_54 : decode cX12_linesOf 54 = .ok (.iload_n 3, 1) := by decide +kernel
theorem dX12_linesOf_55 : decode cX12_linesOf 55 = .ok (.ireturn, 1) := by decide +kernel
theorem dX12_ofWorker_0 : decode cX12_ofWorker 0 = .ok (.aload_n 0, 1) := by decide +kernel
theorem dX12_ofWorker_1 : decode cX12_ofWorker 1 = .ok (.iload_n 1, 1) := by decide +kernel
theorem dX12_ofWorker_2 : decode cX12_ofWorker 2 = .ok (.invokevirtual 457, 3) := by decide +kernel
theorem dX12_ofWorker_5 : decode cX12_ofWorker 5 = .ok (.ifCond .ne 6, 3) := by decide +kernel
theorem dX12_ofWorker_8 : decode cX12_ofWorker 8 = .ok (.bipush (-2), 2) := by decide +kernel
theorem dX12_ofWorker_10 : decode cX12_ofWorker 10 = .ok (.ireturn, 1) := by decide +kernel
theorem dX12_ofWorker_11 : decode cX12_ofWorker 11 = .ok (.iload_n 2, 1) := by decide +kernel
theorem dX12_ofWorker_12 : decode cX12_ofWorker 12 = .ok (.tableswitch 82 5 10 #[40, 47, 54, 61, 68, 75], 40) := by decide +kernel
theorem dX12_ofWorker_52 : decode cX12_ofWorker 52 = .ok (.aload_n 0, 1) := by decide +kernel
theorem dX12_ofWorker_53 : decode cX12_ofWorker 53 = .ok (.getfield 59, 3) := by decide +kernel
theorem dX12_ofWorker_56 : decode cX12_ofWorker 56 = .ok (.iload_n 1, 1) := by decide +kernel
theorem dX12_ofWorker_57 : decode cX12_ofWorker 57 = .ok (.iaload, 1) := by decide +kernel
theorem dX12_ofWorker_58 : decode cX12_ofWorker 58 = .ok (.ireturn, 1) := by decide +kernel
theorem dX12_ofWorker_59 : decode cX12_ofWorker 59 = .ok (.aload_n 0, 1) := by decide +kernel
theorem dX12_ofWorker_60 : decode cX12_ofWorker 60 = .ok (.getfield 62, 3) := by decide +kernel
theorem dX12_ofWorker_63 : decode cX12_ofWorker 63 = .ok (.iload_n 1, 1) := by decide +kernel
theorem dX12_ofWorker_64 : decode cX12_ofWorker 64 = .ok (.iaload, 1) := by decide +kernel
theorem dX12_ofWorker_65 : decode cX12_ofWorker 65 = .ok (.ireturn, 1) := by decide +kernel
theorem dX12_ofWorker_66 : decode cX12_ofWorker 66 = .ok (.aload_n 0, 1) := by decide +kernel
theorem dX12_ofWorker_67 : decode cX12_ofWorker 67 = .ok (.getfield 65, 3) := by decide +kernel
theorem dX12_ofWorker_70 : decode cX12_ofWorker 70 = .ok (.iload_n 1, 1) := by decide +kernel
theorem dX12_ofWorker_71 : decode cX12_ofWorker 71 = .ok (.iaload, 1) := by decide +kernel
theorem dX12_ofWorker_72 : decode cX12_ofWorker 72 = .ok (.ireturn, 1) := by decide +kernel
theorem dX12_ofWorker_73 : decode cX12_ofWorker 73 = .ok (.aload_n 0, 1) := by decide +kernel
theorem dX12_ofWorker_74 : decode cX12_ofWorker 74 = .ok (.getfield 71, 3) := by decide +kernel
theorem dX12_ofWorker_77 : decode cX12_ofWorker 77 = .ok (.iload_n 1, 1) := by decide +kernel
theorem dX12_ofWorker_78 : decode cX12_ofWorker 78 = .ok (.iaload, 1) := by decide +kernel
theorem dX12_ofWorker_79 : decode cX12_ofWorker 79 = .ok (.ireturn, 1) := by decide +kernel
theorem dX12_ofWorker_80 : decode cX12_ofWorker 80 = .ok (.aload_n 0, 1) := by decide +kernel
theorem dX12_ofWorker_81 : decode cX12_ofWorker 81 = .ok (.iload_n 1, 1) := by decide +kernel
theorem dX12_ofWorker_82 : decode cX12_ofWorker 82 = .ok (.iconst 0, 1) := by decide +kernel
theorem dX12_ofWorker_83 : decode cX12_ofWorker 83 = .ok (.invokevirtual 496, 3) := by decide +kernel
theorem dX12_ofWorker_86 : decode cX12_ofWorker 86 = .ok (.ireturn, 1) := by decide +kernel
theorem dX12_ofWorker_87 : decode cX12_ofWorker 87 = .ok (.aload_n 0, 1) := by decide +kernel
theorem dX12_ofWorker_88 : decode cX12_ofWorker 88 = .ok (.iload_n 1, 1) := by decide +kernel
theorem dX12_ofWorker_89 : decode cX12_ofWorker 89 = .ok (.iconst 1, 1) := by decide +kernel
theorem dX12_ofWorker_90 : decode cX12_ofWorker 90 = .ok (.invokevirtual 496, 3) := by decide +kernel
theorem dX12_ofWorker_93 : decode cX12_ofWorker 93 = .ok (.ireturn, 1) := by decide +kernel
theorem dX12_ofWorker_94 : decode cX12_ofWorker 94 = .ok (.bipush (-2), 2) := by decide +kernel
theorem dX12_ofWorker_96 : decode cX12_ofWorker 96 = .ok (.ireturn, 1) := by decide +kernel
theorem dX12_ofKeys_0 : decode cX12_ofKeys 0 = .ok (.iload_n 2, 1) := by decide +kernel
theorem dX12_ofKeys_1 : decode cX12_ofKeys 1 = .ok (.tableswitch 82 1 3 #[27, 49, 56], 27) := by decide +kernel
theorem dX12_ofKeys_28 : decode cX12_ofKeys 28 = .ok (.aload_n 0, 1) := by decide +kernel
theorem dX12_ofKeys_29 : decode cX12_ofKeys 29 = .ok (.getfield 336, 3) := by decide +kernel
theorem dX12_ofKeys_32 : decode cX12_ofKeys 32 = .ok (.iload_n 1, 1) := by decide +kernel
theorem dX12_ofKeys_33 : decode cX12_ofKeys 33 = .ok (.invokestatic 148, 3) := by decide +kernel
theorem dX12_ofKeys_36 : decode cX12_ofKeys 36 = .ok (.ifCond .eq 12, 3) := by decide +kernel
theorem dX12_ofKeys_39 : decode cX12_ofKeys 39 = .ok (.aload_n 0, 1) := by decide +kernel
theorem dX12_ofKeys_40 : decode cX12_ofKeys 40 = .ok (.getfield 44, 3) := by decide +kernel
theorem dX12_ofKeys_43 : decode cX12_ofKeys 43 = .ok (.iload_n 1, 1) := by decide +kernel
theorem dX12_ofKeys_44 : decode cX12_ofKeys 44 = .ok (.iaload, 1) := by decide +kernel
theorem dX12_ofKeys_45 : decode cX12_ofKeys 45 = .ok (.goto 4, 3) := by decide +kernel
theorem dX12_ofKeys_48 : decode cX12_ofKeys 48 = .ok (.iconst (-1), 1) := by decide +kernel
theorem dX12_ofKeys_49 : decode cX12_ofKeys 49 = .ok (.ireturn, 1) := by decide +kernel
theorem dX12_ofKeys_50 : decode cX12_ofKeys 50 = .ok (.aload_n 0, 1) := by decide +kernel
theorem dX12_ofKeys_51 : decode cX12_ofKeys 51 = .ok (.getfield 47, 3) := by decide +kernel
theorem dX12_ofKeys_54 : decode cX12_ofKeys 54 = .ok (.iload_n 1, 1) := by decide +kernel
theorem dX12_ofKeys_55 : decode cX12_ofKeys 55 = .ok (.iaload, 1) := by decide +kernel
theorem dX12_ofKeys_56 : decode cX12_ofKeys 56 = .ok (.ireturn, 1) := by decide +kernel
theorem dX12_ofKeys_57 : decode cX12_ofKeys 57 = .ok (.aload_n 0, 1) := by decide +kernel
theorem dX12_ofKeys_58 : decode cX12_ofKeys 58 = .ok (.invokevirtual 445, 3) := by decide +kernel
theorem dX12_ofKeys_61 : decode cX12_ofKeys 61 = .ok (.aload_n 0, 1) := by decide +kernel
theorem dX12_ofKeys_62 : decode cX12_ofKeys 62 = .ok (.getfield 439, 3) := by decide +kernel
theorem dX12_ofKeys_65 : decode cX12_ofKeys 65 = .ok (.iload_n 1, 1) := by decide +kernel
theorem dX12_ofKeys_66 : decode cX12_ofKeys 66 = .ok (.invokestatic 148, 3) := by decide +kernel
theorem dX12_ofKeys_69 : decode cX12_ofKeys 69 = .ok (.ifCond .eq 12, 3) := by decide +kernel
theorem dX12_ofKeys_72 : decode cX12_ofKeys 72 = .ok (.aload_n 0, 1) := by decide +kernel
theorem dX12_ofKeys_73 : decode cX12_ofKeys 73 = .ok (.getfield 119, 3) := by decide +kernel
theorem dX12_ofKeys_76 : decode cX12_ofKeys 76 = .ok (.iload_n 1, 1) := by decide +kernel
theorem dX12_ofKeys_77 : decode cX12_ofKeys 77 = .ok (.iaload, 1) := by decide +kernel
theorem dX12_ofKeys_78 : decode cX12_ofKeys 78 = .ok (.goto 4, 3) := by decide +kernel
theorem dX12_ofKeys_81 : decode cX12_ofKeys 81 = .ok (.iconst (-1), 1) := by decide +kernel
theorem dX12_ofKeys_82 : decode cX12_ofKeys 82 = .ok (.ireturn, 1) := by decide +kernel
theorem dX12_ofKeys_83 : decode cX12_ofKeys 83 = .ok (.iload_n 1, 1) := by decide +kernel
theorem dX12_ofKeys_84 : decode cX12_ofKeys 84 = .ok (.aload_n 0, 1) := by decide +kernel
theorem dX12_ofKeys_85 : decode cX12_ofKeys 85 = .ok (.getfield 372, 3) := by decide +kernel
theorem dX12_ofKeys_88 : decode cX12_ofKeys 88 = .ok (.if_icmp .ge 12, 3) := by decide +kernel
theorem dX12_ofKeys_91 : decode cX12_ofKeys 91 = .ok (.aload_n 0, 1) := by decide +kernel
theorem dX12_ofKeys_92 : decode cX12_ofKeys 92 = .ok (.getfield 50, 3) := by decide +kernel
theorem dX12_ofKeys_95 : decode cX12_ofKeys 95 = .ok (.iload_n 1, 1) := by decide +kernel
theorem dX12_ofKeys_96 : decode cX12_ofKeys 96 = .ok (.iaload, 1) := by decide +kernel
theorem dX12_ofKeys_97 : decode cX12_ofKeys 97 = .ok (.goto 5, 3) := by decide +kernel
theorem dX12_ofKeys_100 : decode cX12_ofKeys 100 = .ok (.bipush (-2), 2) := by decide +kernel
theorem dX12_ofKeys_102 : decode cX12_ofKeys 102 = .ok (.ireturn, 1) := by decide +kernel
theorem dX12_ofState_0 : decode cX12_ofState 0 = .ok (.iload_n 1, 1) := by decide +kernel
theorem dX12_ofState_1 : decode cX12_ofState 1 = .ok (.bipush 10, 2) := by decide +kernel
theorem dX12_ofState_3 : decode cX12_ofState 3 = .ok (.if_icmp .lt 48, 3) := by decide +kernel
theorem dX12_ofState_6 : decode cX12_ofState 6 = .ok (.iload_n 1, 1) := by decide +kernel
theorem dX12_ofState_7 : decode cX12_ofState 7 = .ok (.bipush 50, 2) := by decide +kernel
theorem dX12_ofState_9 : decode cX12_ofState 9 = .ok (.if_icmp .ge 18, 3) := by decide +kernel
theorem dX12_ofState_12 : decode cX12_ofState 12 = .ok (.aload_n 0, 1) := by decide +kernel
theorem dX12_ofState_13 : decode cX12_ofState 13 = .ok (.iload_n 1, 1) := by decide +kernel
theorem dX12_ofState_14 : decode cX12_ofState 14 = .ok (.bipush 10, 2) := by decide +kernel
theorem dX12_ofState_16 : decode cX12_ofState 16 = .ok (.irem, 1) := by decide +kernel
theorem dX12_ofState_17 : decode cX12_ofState 17 = .ok (.iload_n 1, 1) := by decide +kernel
theorem dX12_ofState_18 : decode cX12_ofState 18 = .ok (.bipush 10, 2) := by decide +kernel
theorem dX12_ofState_20 : decode cX12_ofState 20 = .ok (.idiv, 1) := by decide +kernel
theorem dX12_ofState_21 : decode cX12_ofState 21 = .ok (.invokevirtual 500, 3) := by decide +kernel
theorem dX12_ofState_24 : decode cX12_ofState 24 = .ok (.goto 26, 3) := by decide +kernel
theorem dX12_ofState_27 : decode cX12_ofState 27 = .ok (.iload_n 1, 1) := by decide +kernel
theorem dX12_ofState_28 : decode cX12_ofState 28 = .ok (.bipush 110, 2) := by decide +kernel
theorem dX12_ofState_30 : decode cX12_ofState 30 = .ok (.if_icmp .ge 18, 3) := by decide +kernel
theorem dX12_ofState_33 : decode cX12_ofState 33 = .ok (.aload_n 0, 1) := by decide +kernel
theorem dX12_ofState_34 : decode cX12_ofState 34 = .ok (.iload_n 1, 1) := by decide +kernel
theorem dX12_ofState_35 : decode cX12_ofState 35 = .ok (.bipush 10, 2) := by decide +kernel
theorem dX12_ofState_37 : decode cX12_ofState 37 = .ok (.irem, 1) := by decide +kernel
theorem dX12_ofState_38 : decode cX12_ofState 38 = .ok (.iload_n 1, 1) := by decide +kernel
theorem dX12_ofState_39 : decode cX12_ofState 39 = .ok (.bipush 10, 2) := by decide +kernel
theorem dX12_ofState_41 : decode cX12_ofState 41 = .ok (.idiv, 1) := by decide +kernel
theorem dX12_ofState_42 : decode cX12_ofState 42 = .ok (.invokevirtual 503, 3) := by decide +kernel
theorem dX12_ofState_45 : decode cX12_ofState 45 = .ok (.goto 5, 3) := by decide +kernel
theorem dX12_ofState_48 : decode cX12_ofState 48 = .ok (.bipush (-2), 2) := by decide +kernel
theorem dX12_ofState_50 : decode cX12_ofState 50 = .ok (.ireturn, 1) := by decide +kernel
theorem dX12_ofState_51 : decode cX12_ofState 51 = .ok (.iload_n 1, 1) := by decide +kernel
theorem dX12_ofState_52 : decode cX12_ofState 52 = .ok (.tableswitch 70 0 5 #[40, 45, 50, 55, 60, 65], 40) := by decide +kernel
theorem dX12_ofState_92 : decode cX12_ofState 92 = .ok (.aload_n 0, 1) := by decide +kernel
theorem dX12_ofState_93 : decode cX12_ofState 93 = .ok (.getfield 342, 3) := by decide +kernel
theorem dX12_ofState_96 : decode cX12_ofState 96 = .ok (.ireturn, 1) := by decide +kernel
theorem dX12_ofState_97 : decode cX12_ofState 97 = .ok (.aload_n 0, 1) := by decide +kernel
theorem dX12_ofState_98 : decode cX12_ofState 98 = .ok (.invokevirtual 436, 3) := by decide +kernel
theorem dX12_ofState_101 : decode cX12_ofState 101 = .ok (.ireturn, 1) := by decide +kernel
theorem dX12_ofState_102 : decode cX12_ofState 102 = .ok (.aload_n 0, 1) := by decide +kernel
theorem dX12_ofState_103 : decode cX12_ofState 103 = .ok (.getfield 348, 3) := by decide +kernel
theorem dX12_ofState_106 : decode cX12_ofState 106 = .ok (.ireturn, 1) := by decide +kernel
theorem dX12_ofState_107 : decode cX12_ofState 107 = .ok (.aload_n 0, 1) := by decide +kernel
theorem dX12_ofState_108 : decode cX12_ofState 108 = .ok (.getfield 351, 3) := by decide +kernel
theorem dX12_ofState_111 : decode cX12_ofState 111 = .ok (.ireturn, 1) := by decide +kernel
theorem dX12_ofState_112 : decode cX12_ofState 112 = .ok (.aload_n 0, 1) := by decide +kernel
theorem dX12_ofState_113 : decode cX12_ofState 113 = .ok (.getfield 336, 3) := by decide +kernel
theorem dX12_ofState_116 : decode cX12_ofState 116 = .ok (.ireturn, 1) := by decide +kernel
theorem dX12_ofState_117 : decode cX12_ofState 117 = .ok (.aload_n 0, 1) := by decide +kernel
theorem dX12_ofState_118 : decode cX12_ofState 118 = .ok (.invokevirtual 448, 3) := by decide +kernel
theorem dX12_ofState_121 : decode cX12_ofState 121 = .ok (.ireturn, 1) := by decide +kernel
theorem dX12_ofState_122 : decode cX12_ofState 122 = .ok (.bipush (-2), 2) := by decide +kernel
theorem dX12_ofState_124 : decode cX12_ofState 124 = .ok (.ireturn, 1) := by decide +kernel
theorem dX12_state_0 : decode cX12_state 0 = .ok (.aload_n 0, 1) := by decide +kernel
theorem dX12_state_1 : decode cX12_state 1 = .ok (.iconst 0, 1) := by decide +kernel
theorem dX12_state_2 : decode cX12_state 2 = .ok (.putfield 144, 3) := by decide +kernel
theorem dX12_state_5 : decode cX12_state 5 = .ok (.aload_n 0, 1) := by decide +kernel
theorem dX12_state_6 : decode cX12_state 6 = .ok (.iload_n 1, 1) := by decide +kernel
theorem dX12_state_7 : decode cX12_state 7 = .ok (.iload_n 2, 1) := by decide +kernel
theorem dX12_state_8 : decode cX12_state 8 = .ok (.iload_n 3, 1) := by decide +kernel
theorem dX12_state_9 : decode cX12_state 9 = .ok (.invokevirtual 490, 3) := by decide +kernel
theorem dX12_state_12 : decode cX12_state 12 = .ok (.ifCond .eq 36, 3) := by decide +kernel
theorem dX12_state_15 : decode cX12_state 15 = .ok (.iload 4, 2) := by decide +kernel
theorem dX12_state_17 : decode cX12_state 17 = .ok (.iconst 0, 1) := by decide +kernel
theorem dX12_state_18 : decode cX12_state 18 = .ok (.aload_n 0, 1) := by decide +kernel
theorem dX12_state_19 : decode cX12_state 19 = .ok (.invokevirtual 477, 3) := by decide +kernel
theorem dX12_state_22 : decode cX12_state 22 = .ok (.invokestatic 156, 3) := by decide +kernel
theorem dX12_state_25 : decode cX12_state 25 = .ok (.ifCond .eq 23, 3) := by decide +kernel
theorem dX12_state_28 : decode cX12_state 28 = .ok (.aload_n 0, 1) := by decide +kernel
theorem dX12_state_29 : decode cX12_state 29 = .ok (.iload 4, 2) := by decide +kernel
theorem dX12_state_31 : decode cX12_state 31 = .ok (.invokevirtual 493, 3) := by decide +kernel
theorem dX12_state_34 : decode cX12_state 34 = .ok (.iload 4, 2) := by decide +kernel
theorem dX12_state_36 : decode cX12_state 36 = .ok (.if_icmp .ne 12, 3) := by decide +kernel
theorem dX12_state_39 : decode cX12_state 39 = .ok (.aload_n 0, 1) := by decide +kernel
theorem dX12_state_40 : decode cX12_state 40 = .ok (.iload 5, 2) := by decide +kernel
theorem dX12_state_42 : decode cX12_state 42 = .ok (.invokevirtual 506, 3) := by decide +kernel
theorem dX12_state_45 : decode cX12_state 45 = .ok (.goto 5, 3) := by decide +kernel
theorem dX12_state_48 : decode cX12_state 48 = .ok (.bipush (-2), 2) := by decide +kernel
theorem dX12_state_50 : decode cX12_state 50 = .ok (.ireturn, 1) := by decide +kernel
theorem dX12_why_0 : decode cX12_why 0 = .ok (.aload_n 0, 1) := by decide +kernel
theorem dX12_why_1 : decode cX12_why 1 = .ok (.iconst 0, 1) := by decide +kernel
theorem dX12_why_2 : decode cX12_why 2 = .ok (.putfield 144, 3) := by decide +kernel
theorem dX12_why_5 : decode cX12_why 5 = .ok (.aload_n 0, 1) := by decide +kernel
theorem dX12_why_6 : decode cX12_why 6 = .ok (.iload_n 1, 1) := by decide +kernel
theorem dX12_why_7 : decode cX12_why 7 = .ok (.iload_n 2, 1) := by decide +kernel
theorem dX12_why_8 : decode cX12_why 8 = .ok (.iload_n 3, 1) := by decide +kernel
theorem dX12_why_9 : decode cX12_why 9 = .ok (.invokevirtual 490, 3) := by decide +kernel
theorem dX12_why_12 : decode cX12_why 12 = .ok (.ifCond .eq 43, 3) := by decide +kernel
theorem dX12_why_15 : decode cX12_why 15 = .ok (.iload 4, 2) := by decide +kernel
theorem dX12_why_17 : decode cX12_why 17 = .ok (.iconst 0, 1) := by decide +kernel
theorem dX12_why_18 : decode cX12_why 18 = .ok (.aload_n 0, 1) := by decide +kernel
theorem dX12_why_19 : decode cX12_why 19 = .ok (.invokevirtual 477, 3) := by decide +kernel
theorem dX12_why_22 : decode cX12_why 22 = .ok (.iconst 1, 1) := by decide +kernel
theorem dX12_why_23 : decode cX12_why 23 = .ok (.isub, 1) := by decide +kernel
theorem dX12_why_24 : decode cX12_why 24 = .ok (.invokestatic 156, 3) := by decide +kernel
theorem dX12_why_27 : decode cX12_why 27 = .ok (.ifCond .eq 28, 3) := by decide +kernel
theorem dX12_why_30 : decode cX12_why 30 = .ok (.iload 5, 2) := by decide +kernel
theorem dX12_why_32 : decode cX12_why 32 = .ok (.iconst 0, 1) := by decide +kernel
theorem dX12_why_33 : decode cX12_why 33 = .ok (.iconst 3, 1) := by decide +kernel
theorem dX12_why_34 : decode cX12_why 34 = .ok (.invokestatic 156, 3) := by decide +kernel
theorem dX12_why_37 : decode cX12_why 37 = .ok (.ifCond .eq 18, 3) := by decide +kernel
theorem dX12_why_40 : decode cX12_why 40 = .ok (.aload_n 0, 1) := by decide +kernel
theorem dX12_why_41 : decode cX12_why 41 = .ok (.iload 4, 2) := by decide +kernel
theorem dX12_why_43 : decode cX12_why 43 = .ok (.iconst 1, 1) := by decide +kernel
theorem dX12_why_44 : decode cX12_why 44 = .ok (.iadd, 1) := by decide +kernel
theorem dX12_why_45 : decode cX12_why 45 = .ok (.invokevirtual 493, 3) := by decide +kernel
theorem dX12_why_48 : decode cX12_why 48 = .ok (.iload 4, 2) := by decide +kernel
theorem dX12_why_50 : decode cX12_why 50 = .ok (.iconst 1, 1) := by decide +kernel
theorem dX12_why_51 : decode cX12_why 51 = .ok (.iadd, 1) := by decide +kernel
theorem dX12_why_52 : decode cX12_why 52 = .ok (.if_icmp .eq 6, 3) := by decide +kernel
theorem dX12_why_55 : decode cX12_why 55 = .ok (.bipush (-2), 2) := by decide +kernel
theorem dX12_why_57 : decode cX12_why 57 = .ok (.ireturn, 1) := by decide +kernel
theorem dX12_why_58 : decode cX12_why 58 = .ok (.aload_n 0, 1) := by decide +kernel
theorem dX12_why_59 : decode cX12_why 59 = .ok (.iload 4, 2) := by decide +kernel
theorem dX12_why_61 : decode cX12_why 61 = .ok (.iconst 0, 1) := by decide +kernel
theorem dX12_why_62 : decode cX12_why 62 = .ok (.invokevirtual 480, 3) := by decide +kernel
theorem dX12_why_65 : decode cX12_why 65 = .ok (.iconst 3, 1) := by decide +kernel
theorem dX12_why_66 : decode cX12_why 66 = .ok (.if_icmp .ne 7, 3) := by decide +kernel
theorem dX12_why_69 : decode cX12_why 69 = .ok (.iconst 1, 1) := by decide +kernel
theorem dX12_why_70 : decode cX12_why 70 = .ok (.goto 4, 3) := by decide +kernel
theorem dX12_why_73 : decode cX12_why 73 = .ok (.iconst 0, 1) := by decide +kernel
theorem dX12_why_74 : decode cX12_why 74 = .ok (.istore 6, 2) := by decide +kernel
theorem dX12_why_76 : decode cX12_why 76 = .ok (.iload 5, 2) := by decide +kernel
theorem dX12_why_78 : decode cX12_why 78 = .ok (.tableswitch 68 0 2 #[26, 40, 54], 26) := by decide +kernel
theorem dX12_why_104 : decode cX12_why 104 = .ok (.iload 6, 2) := by decide +kernel
theorem dX12_why_106 : decode cX12_why 106 = .ok (.ifCond .eq 10, 3) := by decide +kernel
theorem dX12_why_109 : decode cX12_why 109 = .ok (.aload_n 0, 1) := by decide +kernel
theorem dX12_why_110 : decode cX12_why 110 = .ok (.getfield 403, 3) := by decide +kernel
theorem dX12_why_113 : decode cX12_why 113 = .ok (.goto 4, 3) := by decide +kernel
theorem dX12_why_116 : decode cX12_why 116 = .ok (.iconst 0, 1) := by decide +kernel
theorem dX12_why_117 : decode cX12_why 117 = .ok (.ireturn, 1) := by decide +kernel
theorem dX12_why_118 : decode cX12_why 118 = .ok (.iload 6, 2) := by decide +kernel
theorem dX12_why_120 : decode cX12_why 120 = .ok (.ifCond .eq 10, 3) := by decide +kernel
theorem dX12_why_123 : decode cX12_why 123 = .ok (.aload_n 0, 1) := by decide +kernel
theorem dX12_why_124 : decode cX12_why 124 = .ok (.getfield 406, 3) := by decide +kernel
theorem dX12_why_127 : decode cX12_why 127 = .ok (.goto 4, 3) := by decide +kernel
theorem dX12_why_130 : decode cX12_why 130 = .ok (.iconst (-1), 1) := by decide +kernel
theorem dX12_why_131 : decode cX12_why 131 = .ok (.ireturn, 1) := by decide +kernel
theorem dX12_why_132 : decode cX12_why 132 = .ok (.iload 6, 2) := by decide +kernel
theorem dX12_why_134 : decode cX12_why 134 = .ok (.ifCond .eq 10, 3) := by decide +kernel
theorem dX12_why_137 : decode cX12_why 137 = .ok (.aload_n 0, 1) := by decide +kernel
theorem dX12_why_138 : decode cX12_why 138 = .ok (.getfield 409, 3) := by decide +kernel
theorem dX12_why_141 : decode cX12_why 141 = .ok (.goto 4, 3) := by decide +kernel
theorem dX12_why_144 : decode cX12_why 144 = .ok (.iconst (-1), 1) := by decide +kernel
theorem dX12_why_145 : decode cX12_why 145 = .ok (.ireturn, 1) := by decide +kernel
theorem dX12_why_146 : decode cX12_why 146 = .ok (.iload 6, 2) := by decide +kernel
theorem dX12_why_148 : decode cX12_why 148 = .ok (.ifCond .eq 10, 3) := by decide +kernel
theorem dX12_why_151 : decode cX12_why 151 = .ok (.aload_n 0, 1) := by decide +kernel
theorem dX12_why_152 : decode cX12_why 152 = .ok (.getfield 412, 3) := by decide +kernel
theorem dX12_why_155 : decode cX12_why 155 = .ok (.goto 4, 3) := by decide +kernel
theorem dX12_why_158 : decode cX12_why 158 = .ok (.iconst (-1), 1) := by decide +kernel
theorem dX12_why_159 : decode cX12_why 159 = .ok (.ireturn, 1) := by decide +kernel
theorem dX12_layCommits_0 : decode cX12_layCommits 0 = .ok (.aload_n 0, 1) := by decide +kernel
theorem dX12_layCommits_1 : decode cX12_layCommits 1 = .ok (.iconst 0, 1) := by decide +kernel
theorem dX12_layCommits_2 : decode cX12_layCommits 2 = .ok (.putfield 509, 3) := by decide +kernel
theorem dX12_layCommits_5 : decode cX12_layCommits 5 = .ok (.iconst 0, 1) := by decide +kernel
theorem dX12_layCommits_6 : decode cX12_layCommits 6 = .ok (.istore_n 1, 1) := by decide +kernel
theorem dX12_layCommits_7 : decode cX12_layCommits 7 = .ok (.iload_n 1, 1) := by decide +kernel
theorem dX12_layCommits_8 : decode cX12_layCommits 8 = .ok (.aload_n 0, 1) := by decide +kernel
theorem dX12_layCommits_9 : decode cX12_layCommits 9 = .ok (.getfield 345, 3) := by decide +kernel
theorem dX12_layCommits_12 : decode cX12_layCommits 12 = .ok (.if_icmp .ge 39, 3) := by decide +kernel
theorem dX12_layCommits_15 : decode cX12_layCommits 15 = .ok (.aload_n 0, 1) := by decide +kernel
theorem dX12_layCommits_16 : decode cX12_layCommits 16 = .ok (.getfield 86, 3) := by decide +kernel
theorem dX12_layCommits_19 : decode cX12_layCommits 19 = .ok (.iload_n 1, 1) := by decide +kernel
theorem dX12_layCommits_20 : decode cX12_layCommits 20 = .ok (.iaload, 1) := by decide +kernel
theorem dX12_layCommits_21 : decode cX12_layCommits 21 = .ok (.iconst (-1), 1) := by decide +kernel
theorem dX12_layCommits_22 : decode cX12_layCommits 22 = .ok (.if_icmp .eq 23, 3) := by decide +kernel
theorem dX12_layCommits_25 : decode cX12_layCommits 25 = .ok (.aload_n 0, 1) := by decide +kernel
theorem dX12_layCommits_26 : decode cX12_layCommits 26 = .ok (.getfield 125, 3) := by decide +kernel
theorem dX12_layCommits_29 : decode cX12_layCommits 29 = .ok (.aload_n 0, 1) := by decide +kernel
theorem dX12_layCommits_30 : decode cX12_layCommits 30 = .ok (.getfield 509, 3) := by decide +kernel
theorem dX12_layCommits_33 : decode cX12_layCommits 33 = .ok (.iload_n 1, 1) := by decide +kernel
theorem dX12_layCommits_34 : decode cX12_layCommits 34 = .ok (.iastore, 1) := by decide +kernel
theorem dX12_layCommits_35 : decode cX12_layCommits 35 = .ok (.aload_n 0, 1) := by decide +kernel
theorem dX12_layCommits_36 : decode cX12_layCommits 36 = .ok (.dup, 1) := by decide +kernel
theorem dX12_layCommits_37 : decode cX12_layCommits 37 = .ok (.getfield 509, 3) := by decide +kernel
theorem dX12_layCommits_40 : decode cX12_layCommits 40 = .ok (.iconst 1, 1) := by decide +kernel
theorem dX12_layCommits_41 : decode cX12_layCommits 41 = .ok (.iadd, 1) := by decide +kernel
theorem dX12_layCommits_42 : decode cX12_layCommits 42 = .ok (.putfield 509, 3) := by decide +kernel
theorem dX12_layCommits_45 : decode cX12_layCommits 45 = .ok (.iinc 1 1, 3) := by decide +kernel
theorem dX12_layCommits_48 : decode cX12_layCommits 48 = .ok (.goto (-41), 3) := by decide +kernel
theorem dX12_layCommits_51 : decode cX12_layCommits 51 = .ok (.return_, 1) := by decide +kernel
theorem dX12_writtenIn_0 : decode cX12_writtenIn 0 = .ok (.iconst 0, 1) := by decide +kernel
theorem dX12_writtenIn_1 : decode cX12_writtenIn 1 = .ok (.istore_n 2, 1) := by decide +kernel
theorem dX12_writtenIn_2 : decode cX12_writtenIn 2 = .ok (.iconst 0, 1) := by decide +kernel
theorem dX12_writtenIn_3 : decode cX12_writtenIn 3 = .ok (.istore_n 3, 1) := by decide +kernel
theorem dX12_writtenIn_4 : decode cX12_writtenIn 4 = .ok (.iload_n 3, 1) := by decide +kernel
theorem dX12_writtenIn_5 : decode cX12_writtenIn 5 = .ok (.bipush 10, 2) := by decide +kernel
theorem dX12_writtenIn_7 : decode cX12_writtenIn 7 = .ok (.if_icmp .ge 35, 3) := by decide +kernel
theorem dX12_writtenIn_10 : decode cX12_writtenIn 10 = .ok (.iload_n 2, 1) := by decide +kernel
theorem dX12_writtenIn_11 : decode cX12_writtenIn 11 = .ok (.aload_n 0, 1) := by decide +kernel
theorem dX12_writtenIn_12 : decode cX12_writtenIn 12 = .ok (.getfield 110, 3) := by decide +kernel
theorem dX12_writtenIn_15 : decode cX12_writtenIn 15 = .ok (.bipush 10, 2) := by decide +kernel
theorem dX12_writtenIn_17 : decode cX12_writtenIn 17 = .ok (.iload_n 1, 1) := by decide +kernel
theorem dX12_writtenIn_18 : decode cX12_writtenIn 18 = .ok (.imul, 1) := by decide +kernel
theorem dX12_writtenIn_19 : decode cX12_writtenIn 19 = .ok (.iload_n 3, 1) := by decide +kernel
theorem dX12_writtenIn_20 : decode cX12_writtenIn 20 = .ok (.iadd, 1) := by decide +kernel
theorem dX12_writtenIn_21 : decode cX12_writtenIn 21 = .ok (.iaload, 1) := by decide +kernel
theorem dX12_writtenIn_22 : decode cX12_writtenIn 22 = .ok (.bipush (-2), 2) := by decide +kernel
theorem dX12_writtenIn_24 : decode cX12_writtenIn 24 = .ok (.if_icmp .ne 7, 3) := by decide +kernel
theorem dX12_writtenIn_27 : decode cX12_writtenIn 27 = .ok (.iconst 0, 1) := by decide +kernel
theorem dX12_writtenIn_28 : decode cX12_writtenIn 28 = .ok (.goto 6, 3) := by decide +kernel
theorem dX12_writtenIn_31 : decode cX12_writtenIn 31 = .ok (.iconst 1, 1) := by decide +kernel
theorem dX12_writtenIn_32 : decode cX12_writtenIn 32 = .ok (.iload_n 3, 1) := by decide +kernel
theorem dX12_writtenIn_33 : decode cX12_writtenIn 33 = .ok (.ishl, 1) := by decide +kernel
theorem dX12_writtenIn_34 : decode cX12_writtenIn 34 = .ok (.ior, 1) := by decide +kernel
theorem dX12_writtenIn_35 : decode cX12_writtenIn 35 = .ok (.istore_n 2, 1) := by decide +kernel
theorem dX12_writtenIn_36 : decode cX12_writtenIn 36 = .ok (.iinc 3 1, 3) := by decide +kernel
theorem dX12_writtenIn_39 : decode cX12_writtenIn 39 = .ok (.goto (-35), 3) := by decide +kernel
theorem dX12_writtenIn_42 : decode cX12_writtenIn 42 = .ok (.iload_n 2, 1) := by decide +kernel
theorem dX12_writtenIn_43 : decode cX12_writtenIn 43 = .ok (.ireturn, 1) := by decide +kernel
theorem dX12_hangs_0 : decode cX12_hangs 0 = .ok (.aload_n 0, 1) := by decide +kernel
theorem dX12_hangs_1 : decode cX12_hangs 1 = .ok (.getfield 125, 3) := by decide +kernel
theorem dX12_hangs_4 : decode cX12_hangs 4 = .ok (.iload_n 1, 1) := by decide +kernel
theorem dX12_hangs_5 : decode cX12_hangs 5 = .ok (.iaload, 1) := by decide +kernel
theorem dX12_hangs_6 : decode cX12_hangs 6 = .ok (.istore_n 2, 1) := by decide +kernel
theorem dX12_hangs_7 : decode cX12_hangs 7 = .ok (.aload_n 0, 1) := by decide +kernel
theorem dX12_hangs_8 : decode cX12_hangs 8 = .ok (.getfield 101, 3) := by decide +kernel
theorem dX12_hangs_11 : decode cX12_hangs 11 = .ok (.iload_n 2, 1) := by decide +kernel
theorem dX12_hangs_12 : decode cX12_hangs 12 = .ok (.iaload, 1) := by decide +kernel
theorem dX12_hangs_13 : decode cX12_hangs 13 = .ok (.aload_n 0, 1) := by decide +kernel
theorem dX12_hangs_14 : decode cX12_hangs 14 = .ok (.iload_n 2, 1) := by decide +kernel
theorem dX12_hangs_15 : decode cX12_hangs 15 = .ok (.invokevirtual 512, 3) := by decide +kernel
theorem dX12_hangs_18 : decode cX12_hangs 18 = .ok (.ior, 1) := by decide +kernel
theorem dX12_hangs_19 : decode cX12_hangs 19 = .ok (.istore_n 3, 1) := by decide +kernel
theorem dX12_hangs_20 : decode cX12_hangs 20 = .ok (.iconst 0, 1) := by decide +kernel
theorem dX12_hangs_21 : decode cX12_hangs 21 = .ok (.istore 4, 2) := by decide +kernel
theorem dX12_hangs_23 : decode cX12_hangs 23 = .ok (.iconst 0, 1) := by decide +kernel
theorem dX12_hangs_24 : decode cX12_hangs 24 = .ok (.istore 5, 2) := by decide +kernel
theorem dX12_hangs_26 : decode cX12_hangs 26 = .ok (.iload 5, 2) := by decide +kernel
theorem dX12_hangs_28 : decode cX12_hangs 28 = .ok (.iload_n 1, 1) := by decide +kernel
theorem dX12_hangs_29 : decode cX12_hangs 29 = .ok (.if_icmp .ge 59, 3) := by decide +kernel
theorem dX12_hangs_32 : decode cX12_hangs 32 = .ok (.aload_n 0, 1) := by decide +kernel
theorem dX12_hangs_33 : decode cX12_hangs 33 = .ok (.getfield 125, 3) := by decide +kernel
theorem dX12_hangs_36 : decode cX12_hangs 36 = .ok (.iload 5, 2) := by decide +kernel
theorem dX12_hangs_38 : decode cX12_hangs 38 = .ok (.iaload, 1) := by decide +kernel
theorem dX12_hangs_39 : decode cX12_hangs 39 = .ok (.istore 6, 2) := by decide +kernel
theorem dX12_hangs_41 : decode cX12_hangs 41 = .ok (.iload 4, 2) := by decide +kernel
theorem dX12_hangs_43 : decode cX12_hangs 43 = .ok (.aload_n 0, 1) := by decide +kernel
theorem dX12_hangs_44 : decode cX12_hangs 44 = .ok (.iload 6, 2) := by decide +kernel
theorem dX12_hangs_46 : decode cX12_hangs 46 = .ok (.invokevirtual 512, 3) := by decide +kernel
theorem dX12_hangs_49 : decode cX12_hangs 49 = .ok (.iload_n 3, 1) := by decide +kernel
theorem dX12_hangs_50 : decode cX12_hangs 50 = .ok (.iand, 1) := by decide +kernel
theorem dX12_hangs_51 : decode cX12_hangs 51 = .ok (.ifCond .ne 20, 3) := by decide +kernel
