/-! decode rows -/
theorem dX12_hangs_54 : decode cX12_hangs 54 = .ok (.aload_n 0, 1) := by decide +kernel
theorem dX12_hangs_55 : decode cX12_hangs 55 = .ok (.getfield 107, 3) := by decide +kernel
theorem dX12_hangs_58 : decode cX12_hangs 58 = .ok (.iload 6, 2) := by decide +kernel
theorem dX12_hangs_60 : decode cX12_hangs 60 = .ok (.iaload, 1) := by decide +kernel
theorem dX12_hangs_61 : decode cX12_hangs 61 = .ok (.aload_n 0, 1) := by decide +kernel
theorem dX12_hangs_62 : decode cX12_hangs 62 = .ok (.getfield 104, 3) := by decide +kernel
theorem dX12_hangs_65 : decode cX12_hangs 65 = .ok (.iload_n 2, 1) := by decide +kernel
theorem dX12_hangs_66 : decode cX12_hangs 66 = .ok (.iaload, 1) := by decide +kernel
theorem dX12_hangs_67 : decode cX12_hangs 67 = .ok (.iand, 1) := by decide +kernel
theorem dX12_hangs_68 : decode cX12_hangs 68 = .ok (.ifCond .eq 10, 3) := by decide +kernel
theorem dX12_hangs_71 : decode cX12_hangs 71 = .ok (.iconst 1, 1) := by decide +kernel
theorem dX12_hangs_72 : decode cX12_hangs 72 = .ok (.iload 5, 2) := by decide +kernel
theorem dX12_hangs_74 : decode cX12_hangs 74 = .ok (.ishl, 1) := by decide +kernel
theorem dX12_hangs_75 : decode cX12_hangs 75 = .ok (.goto 4, 3) := by decide +kernel
theorem dX12_hangs_78 : decode cX12_hangs 78 = .ok (.iconst 0, 1) := by decide +kernel
theorem dX12_hangs_79 : decode cX12_hangs 79 = .ok (.ior, 1) := by decide +kernel
theorem dX12_hangs_80 : decode cX12_hangs 80 = .ok (.istore 4, 2) := by decide +kernel
theorem dX12_hangs_82 : decode cX12_hangs 82 = .ok (.iinc 5 1, 3) := by decide +kernel
theorem dX12_hangs_85 : decode cX12_hangs 85 = .ok (.goto (-59), 3) := by decide +kernel
theorem dX12_hangs_88 : decode cX12_hangs 88 = .ok (.iload 4, 2) := by decide +kernel
theorem dX12_hangs_90 : decode cX12_hangs 90 = .ok (.ireturn, 1) := by decide +kernel
theorem dX12_runAlone_0 : decode cX12_runAlone 0 = .ok (.aload_n 0, 1) := by decide +kernel
theorem dX12_runAlone_1 : decode cX12_runAlone 1 = .ok (.iconst 0, 1) := by decide +kernel
theorem dX12_runAlone_2 : decode cX12_runAlone 2 = .ok (.iload_n 1, 1) := by decide +kernel
theorem dX12_runAlone_3 : decode cX12_runAlone 3 = .ok (.invokevirtual 469, 3) := by decide +kernel
theorem dX12_runAlone_6 : decode cX12_runAlone 6 = .ok (.iconst 1, 1) := by decide +kernel
theorem dX12_runAlone_7 : decode cX12_runAlone 7 = .ok (.istore_n 2, 1) := by decide +kernel
theorem dX12_runAlone_8 : decode cX12_runAlone 8 = .ok (.iload_n 2, 1) := by decide +kernel
theorem dX12_runAlone_9 : decode cX12_runAlone 9 = .ok (.ifCond .eq 12, 3) := by decide +kernel
theorem dX12_runAlone_12 : decode cX12_runAlone 12 = .ok (.aload_n 0, 1) := by decide +kernel
theorem dX12_runAlone_13 : decode cX12_runAlone 13 = .ok (.iconst 0, 1) := by decide +kernel
theorem dX12_runAlone_14 : decode cX12_runAlone 14 = .ok (.invokevirtual 460, 3) := by decide +kernel
theorem dX12_runAlone_17 : decode cX12_runAlone 17 = .ok (.istore_n 2, 1) := by decide +kernel
theorem dX12_runAlone_18 : decode cX12_runAlone 18 = .ok (.goto (-10), 3) := by decide +kernel
theorem dX12_runAlone_21 : decode cX12_runAlone 21 = .ok (.iconst 0, 1) := by decide +kernel
theorem dX12_runAlone_22 : decode cX12_runAlone 22 = .ok (.istore_n 3, 1) := by decide +kernel
theorem dX12_runAlone_23 : decode cX12_runAlone 23 = .ok (.iload_n 3, 1) := by decide +kernel
theorem dX12_runAlone_24 : decode cX12_runAlone 24 = .ok (.bipush 10, 2) := by decide +kernel
theorem dX12_runAlone_26 : decode cX12_runAlone 26 = .ok (.if_icmp .ge 73, 3) := by decide +kernel
theorem dX12_runAlone_29 : decode cX12_runAlone 29 = .ok (.aload_n 0, 1) := by decide +kernel
theorem dX12_runAlone_30 : decode cX12_runAlone 30 = .ok (.getfield 83, 3) := by decide +kernel
theorem dX12_runAlone_33 : decode cX12_runAlone 33 = .ok (.iload_n 3, 1) := by decide +kernel
theorem dX12_runAlone_34 : decode cX12_runAlone 34 = .ok (.iaload, 1) := by decide +kernel
theorem dX12_runAlone_35 : decode cX12_runAlone 35 = .ok (.istore 4, 2) := by decide +kernel
theorem dX12_runAlone_37 : decode cX12_runAlone 37 = .ok (.iload 4, 2) := by decide +kernel
theorem dX12_runAlone_39 : decode cX12_runAlone 39 = .ok (.bipush (-2), 2) := by decide +kernel
theorem dX12_runAlone_41 : decode cX12_runAlone 41 = .ok (.if_icmp .eq 52, 3) := by decide +kernel
theorem dX12_runAlone_44 : decode cX12_runAlone 44 = .ok (.aload_n 0, 1) := by decide +kernel
theorem dX12_runAlone_45 : decode cX12_runAlone 45 = .ok (.iload 4, 2) := by decide +kernel
theorem dX12_runAlone_47 : decode cX12_runAlone 47 = .ok (.iconst (-1), 1) := by decide +kernel
theorem dX12_runAlone_48 : decode cX12_runAlone 48 = .ok (.if_icmp .ne 16, 3) := by decide +kernel
theorem dX12_runAlone_51 : decode cX12_runAlone 51 = .ok (.aload_n 0, 1) := by decide +kernel
theorem dX12_runAlone_52 : decode cX12_runAlone 52 = .ok (.getfield 336, 3) := by decide +kernel
theorem dX12_runAlone_55 : decode cX12_runAlone 55 = .ok (.iconst 1, 1) := by decide +kernel
theorem dX12_runAlone_56 : decode cX12_runAlone 56 = .ok (.iload_n 3, 1) := by decide +kernel
theorem dX12_runAlone_57 : decode cX12_runAlone 57 = .ok (.ishl, 1) := by decide +kernel
theorem dX12_runAlone_58 : decode cX12_runAlone 58 = .ok (.iconst (-1), 1) := by decide +kernel
theorem dX12_runAlone_59 : decode cX12_runAlone 59 = .ok (.ixor, 1) := by decide +kernel
theorem dX12_runAlone_60 : decode cX12_runAlone 60 = .ok (.iand, 1) := by decide +kernel
theorem dX12_runAlone_61 : decode cX12_runAlone 61 = .ok (.goto 11, 3) := by decide +kernel
theorem dX12_runAlone_64 : decode cX12_runAlone 64 = .ok (.aload_n 0, 1) := by decide +kernel
theorem dX12_runAlone_65 : decode cX12_runAlone 65 = .ok (.getfield 336, 3) := by decide +kernel
theorem dX12_runAlone_68 : decode cX12_runAlone 68 = .ok (.iconst 1, 1) := by decide +kernel
theorem dX12_runAlone_69 : decode cX12_runAlone 69 = .ok (.iload_n 3, 1) := by decide +kernel
theorem dX12_runAlone_70 : decode cX12_runAlone 70 = .ok (.ishl, 1) := by decide +kernel
theorem dX12_runAlone_71 : decode cX12_runAlone 71 = .ok (.ior, 1) := by decide +kernel
theorem dX12_runAlone_72 : decode cX12_runAlone 72 = .ok (.putfield 336, 3) := by decide +kernel
theorem dX12_runAlone_75 : decode cX12_runAlone 75 = .ok (.aload_n 0, 1) := by decide +kernel
theorem dX12_runAlone_76 : decode cX12_runAlone 76 = .ok (.getfield 44, 3) := by decide +kernel
theorem dX12_runAlone_79 : decode cX12_runAlone 79 = .ok (.iload_n 3, 1) := by decide +kernel
theorem dX12_runAlone_80 : decode cX12_runAlone 80 = .ok (.iload 4, 2) := by decide +kernel
theorem dX12_runAlone_82 : decode cX12_runAlone 82 = .ok (.iconst (-1), 1) := by decide +kernel
theorem dX12_runAlone_83 : decode cX12_runAlone 83 = .ok (.if_icmp .ne 7, 3) := by decide +kernel
theorem dX12_runAlone_86 : decode cX12_runAlone 86 = .ok (.iconst 0, 1) := by decide +kernel
theorem dX12_runAlone_87 : decode cX12_runAlone 87 = .ok (.goto 5, 3) := by decide +kernel
theorem dX12_runAlone_90 : decode cX12_runAlone 90 = .ok (.iload 4, 2) := by decide +kernel
theorem dX12_runAlone_92 : decode cX12_runAlone 92 = .ok (.iastore, 1) := by decide +kernel
theorem dX12_runAlone_93 : decode cX12_runAlone 93 = .ok (.iinc 3 1, 3) := by decide +kernel
theorem dX12_runAlone_96 : decode cX12_runAlone 96 = .ok (.goto (-73), 3) := by decide +kernel
theorem dX12_runAlone_99 : decode cX12_runAlone 99 = .ok (.return_, 1) := by decide +kernel
theorem dX12_keepEnd_0 : decode cX12_keepEnd 0 = .ok (.aload_n 0, 1) := by decide +kernel
theorem dX12_keepEnd_1 : decode cX12_keepEnd 1 = .ok (.aload_n 0, 1) := by decide +kernel
theorem dX12_keepEnd_2 : decode cX12_keepEnd 2 = .ok (.getfield 336, 3) := by decide +kernel
theorem dX12_keepEnd_5 : decode cX12_keepEnd 5 = .ok (.putfield 515, 3) := by decide +kernel
theorem dX12_keepEnd_8 : decode cX12_keepEnd 8 = .ok (.iconst 0, 1) := by decide +kernel
theorem dX12_keepEnd_9 : decode cX12_keepEnd 9 = .ok (.istore_n 1, 1) := by decide +kernel
theorem dX12_keepEnd_10 : decode cX12_keepEnd 10 = .ok (.iload_n 1, 1) := by decide +kernel
theorem dX12_keepEnd_11 : decode cX12_keepEnd 11 = .ok (.bipush 10, 2) := by decide +kernel
theorem dX12_keepEnd_13 : decode cX12_keepEnd 13 = .ok (.if_icmp .ge 21, 3) := by decide +kernel
theorem dX12_keepEnd_16 : decode cX12_keepEnd 16 = .ok (.aload_n 0, 1) := by decide +kernel
theorem dX12_keepEnd_17 : decode cX12_keepEnd 17 = .ok (.getfield 128, 3) := by decide +kernel
theorem dX12_keepEnd_20 : decode cX12_keepEnd 20 = .ok (.iload_n 1, 1) := by decide +kernel
theorem dX12_keepEnd_21 : decode cX12_keepEnd 21 = .ok (.aload_n 0, 1) := by decide +kernel
theorem dX12_keepEnd_22 : decode cX12_keepEnd 22 = .ok (.getfield 44, 3) := by decide +kernel
theorem dX12_keepEnd_25 : decode cX12_keepEnd 25 = .ok (.iload_n 1, 1) := by decide +kernel
theorem dX12_keepEnd_26 : decode cX12_keepEnd 26 = .ok (.iaload, 1) := by decide +kernel
theorem dX12_keepEnd_27 : decode cX12_keepEnd 27 = .ok (.iastore, 1) := by decide +kernel
theorem dX12_keepEnd_28 : decode cX12_keepEnd 28 = .ok (.iinc 1 1, 3) := by decide +kernel
theorem dX12_keepEnd_31 : decode cX12_keepEnd 31 = .ok (.goto (-21), 3) := by decide +kernel
theorem dX12_keepEnd_34 : decode cX12_keepEnd 34 = .ok (.return_, 1) := by decide +kernel
theorem dX12_isEnd_0 : decode cX12_isEnd 0 = .ok (.aload_n 0, 1) := by decide +kernel
theorem dX12_isEnd_1 : decode cX12_isEnd 1 = .ok (.getfield 336, 3) := by decide +kernel
theorem dX12_isEnd_4 : decode cX12_isEnd 4 = .ok (.aload_n 0, 1) := by decide +kernel
theorem dX12_isEnd_5 : decode cX12_isEnd 5 = .ok (.getfield 515, 3) := by decide +kernel
theorem dX12_isEnd_8 : decode cX12_isEnd 8 = .ok (.if_icmp .ne 7, 3) := by decide +kernel
theorem dX12_isEnd_11 : decode cX12_isEnd 11 = .ok (.iconst 1, 1) := by decide +kernel
theorem dX12_isEnd_12 : decode cX12_isEnd 12 = .ok (.goto 4, 3) := by decide +kernel
theorem dX12_isEnd_15 : decode cX12_isEnd 15 = .ok (.iconst 0, 1) := by decide +kernel
theorem dX12_isEnd_16 : decode cX12_isEnd 16 = .ok (.istore_n 1, 1) := by decide +kernel
theorem dX12_isEnd_17 : decode cX12_isEnd 17 = .ok (.iconst 0, 1) := by decide +kernel
theorem dX12_isEnd_18 : decode cX12_isEnd 18 = .ok (.istore_n 2, 1) := by decide +kernel
theorem dX12_isEnd_19 : decode cX12_isEnd 19 = .ok (.iload_n 2, 1) := by decide +kernel
theorem dX12_isEnd_20 : decode cX12_isEnd 20 = .ok (.bipush 10, 2) := by decide +kernel
theorem dX12_isEnd_22 : decode cX12_isEnd 22 = .ok (.if_icmp .ge 45, 3) := by decide +kernel
theorem dX12_isEnd_25 : decode cX12_isEnd 25 = .ok (.iload_n 1, 1) := by decide +kernel
theorem dX12_isEnd_26 : decode cX12_isEnd 26 = .ok (.ifCond .eq 33, 3) := by decide +kernel
theorem dX12_isEnd_29 : decode cX12_isEnd 29 = .ok (.aload_n 0, 1) := by decide +kernel
theorem dX12_isEnd_30 : decode cX12_isEnd 30 = .ok (.getfield 336, 3) := by decide +kernel
theorem dX12_isEnd_33 : decode cX12_isEnd 33 = .ok (.iload_n 2, 1) := by decide +kernel
theorem dX12_isEnd_34 : decode cX12_isEnd 34 = .ok (.invokestatic 148, 3) := by decide +kernel
theorem dX12_isEnd_37 : decode cX12_isEnd 37 = .ok (.ifCond .eq 18, 3) := by decide +kernel
theorem dX12_isEnd_40 : decode cX12_isEnd 40 = .ok (.aload_n 0, 1) := by decide +kernel
theorem dX12_isEnd_41 : decode cX12_isEnd 41 = .ok (.getfield 44, 3) := by decide +kernel
theorem dX12_isEnd_44 : decode cX12_isEnd 44 = .ok (.iload_n 2, 1) := by decide +kernel
theorem dX12_isEnd_45 : decode cX12_isEnd 45 = .ok (.iaload, 1) := by decide +kernel
theorem dX12_isEnd_46 : decode cX12_isEnd 46 = .ok (.aload_n 0, 1) := by decide +kernel
theorem dX12_isEnd_47 : decode cX12_isEnd 47 = .ok (.getfield 128, 3) := by decide +kernel
theorem dX12_isEnd_50 : decode cX12_isEnd 50 = .ok (.iload_n 2, 1) := by decide +kernel
theorem dX12_isEnd_51 : decode cX12_isEnd 51 = .ok (.iaload, 1) := by decide +kernel
theorem dX12_isEnd_52 : decode cX12_isEnd 52 = .ok (.if_icmp .ne 7, 3) := by decide +kernel
theorem dX12_isEnd_55 : decode cX12_isEnd 55 = .ok (.iconst 1, 1) := by decide +kernel
theorem dX12_isEnd_56 : decode cX12_isEnd 56 = .ok (.goto 4, 3) := by decide +kernel
theorem dX12_isEnd_59 : decode cX12_isEnd 59 = .ok (.iconst 0, 1) := by decide +kernel
theorem dX12_isEnd_60 : decode cX12_isEnd 60 = .ok (.istore_n 1, 1) := by decide +kernel
theorem dX12_isEnd_61 : decode cX12_isEnd 61 = .ok (.iinc 2 1, 3) := by decide +kernel
theorem dX12_isEnd_64 : decode cX12_isEnd 64 = .ok (.goto (-45), 3) := by decide +kernel
theorem dX12_isEnd_67 : decode cX12_isEnd 67 = .ok (.iload_n 1, 1) := by decide +kernel
theorem dX12_isEnd_68 : decode cX12_isEnd 68 = .ok (.ireturn, 1) := by decide +kernel
theorem dX12_swap_0 : decode cX12_swap 0 = .ok (.aload_n 0, 1) := by decide +kernel
theorem dX12_swap_1 : decode cX12_swap 1 = .ok (.getfield 131, 3) := by decide +kernel
theorem dX12_swap_4 : decode cX12_swap 4 = .ok (.iload_n 1, 1) := by decide +kernel
theorem dX12_swap_5 : decode cX12_swap 5 = .ok (.iaload, 1) := by decide +kernel
theorem dX12_swap_6 : decode cX12_swap 6 = .ok (.istore_n 3, 1) := by decide +kernel
theorem dX12_swap_7 : decode cX12_swap 7 = .ok (.aload_n 0, 1) := by decide +kernel
theorem dX12_swap_8 : decode cX12_swap 8 = .ok (.getfield 131, 3) := by decide +kernel
theorem dX12_swap_11 : decode cX12_swap 11 = .ok (.iload_n 1, 1) := by decide +kernel
theorem dX12_swap_12 : decode cX12_swap 12 = .ok (.aload_n 0, 1) := by decide +kernel
theorem dX12_swap_13 : decode cX12_swap 13 = .ok (.getfield 131, 3) := by decide +kernel
theorem dX12_swap_16 : decode cX12_swap 16 = .ok (.iload_n 2, 1) := by decide +kernel
theorem dX12_swap_17 : decode cX12_swap 17 = .ok (.iaload, 1) := by decide +kernel
theorem dX12_swap_18 : decode cX12_swap 18 = .ok (.iastore, 1) := by decide +kernel
theorem dX12_swap_19 : decode cX12_swap 19 = .ok (.aload_n 0, 1) := by decide +kernel
theorem dX12_swap_20 : decode cX12_swap 20 = .ok (.getfield 131, 3) := by decide +kernel
theorem dX12_swap_23 : decode cX12_swap 23 = .ok (.iload_n 2, 1) := by decide +kernel
theorem dX12_swap_24 : decode cX12_swap 24 = .ok (.iload_n 3, 1) := by decide +kernel
theorem dX12_swap_25 : decode cX12_swap 25 = .ok (.iastore, 1) := by decide +kernel
theorem dX12_swap_26 : decode cX12_swap 26 = .ok (.return_, 1) := by decide +kernel
theorem dX12_nextRow_0 : decode cX12_nextRow 0 = .ok (.iload_n 1, 1) := by decide +kernel
theorem dX12_nextRow_1 : decode cX12_nextRow 1 = .ok (.iconst 2, 1) := by decide +kernel
theorem dX12_nextRow_2 : decode cX12_nextRow 2 = .ok (.isub, 1) := by decide +kernel
theorem dX12_nextRow_3 : decode cX12_nextRow 3 = .ok (.istore_n 2, 1) := by decide +kernel
theorem dX12_nextRow_4 : decode cX12_nextRow 4 = .ok (.iload_n 2, 1) := by decide +kernel
theorem dX12_nextRow_5 : decode cX12_nextRow 5 = .ok (.ifCond .lt 26, 3) := by decide +kernel
theorem dX12_nextRow_8 : decode cX12_nextRow 8 = .ok (.aload_n 0, 1) := by decide +kernel
theorem dX12_nextRow_9 : decode cX12_nextRow 9 = .ok (.getfield 131, 3) := by decide +kernel
theorem dX12_nextRow_12 : decode cX12_nextRow 12 = .ok (.iload_n 2, 1) := by decide +kernel
theorem dX12_nextRow_13 : decode cX12_nextRow 13 = .ok (.iaload, 1) := by decide +kernel
theorem dX12_nextRow_14 : decode cX12_nextRow 14 = .ok (.aload_n 0, 1) := by decide +kernel
theorem dX12_nextRow_15 : decode cX12_nextRow 15 = .ok (.getfield 131, 3) := by decide +kernel
theorem dX12_nextRow_18 : decode cX12_nextRow 18 = .ok (.iload_n 2, 1) := by decide +kernel
theorem dX12_nextRow_19 : decode cX12_nextRow 19 = .ok (.iconst 1, 1) := by decide +kernel
theorem dX12_nextRow_20 : decode cX12_nextRow 20 = .ok (.iadd, 1) := by decide +kernel
theorem dX12_nextRow_21 : decode cX12_nextRow 21 = .ok (.iaload, 1) := by decide +kernel
theorem dX12_nextRow_22 : decode cX12_nextRow 22 = .ok (.if_icmp .le 9, 3) := by decide +kernel
theorem dX12_nextRow_25 : decode cX12_nextRow 25 = .ok (.iinc 2 (-1), 3) := by decide +kernel
theorem dX12_nextRow_28 : decode cX12_nextRow 28 = .ok (.goto (-24), 3) := by decide +kernel
theorem dX12_nextRow_31 : decode cX12_nextRow 31 = .ok (.iload_n 2, 1) := by decide +kernel
theorem dX12_nextRow_32 : decode cX12_nextRow 32 = .ok (.ifCond .ge 5, 3) := by decide +kernel
theorem dX12_nextRow_35 : decode cX12_nextRow 35 = .ok (.iconst 0, 1) := by decide +kernel
theorem dX12_nextRow_36 : decode cX12_nextRow 36 = .ok (.ireturn, 1) := by decide +kernel
theorem dX12_nextRow_37 : decode cX12_nextRow 37 = .ok (.iload_n 1, 1) := by decide +kernel
theorem dX12_nextRow_38 : decode cX12_nextRow 38 = .ok (.iconst 1, 1) := by decide +kernel
theorem dX12_nextRow_39 : decode cX12_nextRow 39 = .ok (.isub, 1) := by decide +kernel
theorem dX12_nextRow_40 : decode cX12_nextRow 40 = .ok (.istore_n 3, 1) := by decide +kernel
theorem dX12_nextRow_41 : decode cX12_nextRow 41 = .ok (.aload_n 0, 1) := by decide +kernel
theorem dX12_nextRow_42 : decode cX12_nextRow 42 = .ok (.getfield 131, 3) := by decide +kernel
theorem dX12_nextRow_45 : decode cX12_nextRow 45 = .ok (.iload_n 3, 1) := by decide +kernel
theorem dX12_nextRow_46 : decode cX12_nextRow 46 = .ok (.iaload, 1) := by decide +kernel
theorem dX12_nextRow_47 : decode cX12_nextRow 47 = .ok (.aload_n 0, 1) := by decide +kernel
theorem dX12_nextRow_48 : decode cX12_nextRow 48 = .ok (.getfield 131, 3) := by decide +kernel
theorem dX12_nextRow_51 : decode cX12_nextRow 51 = .ok (.iload_n 2, 1) := by decide +kernel
theorem dX12_nextRow_52 : decode cX12_nextRow 52 = .ok (.iaload, 1) := by decide +kernel
theorem dX12_nextRow_53 : decode cX12_nextRow 53 = .ok (.if_icmp .ge 9, 3) := by decide +kernel
theorem dX12_nextRow_56 : decode cX12_nextRow 56 = .ok (.iinc 3 (-1), 3) := by decide +kernel
theorem dX12_nextRow_59 : decode cX12_nextRow 59 = .ok (.goto (-18), 3) := by decide +kernel
theorem dX12_nextRow_62 : decode cX12_nextRow 62 = .ok (.aload_n 0, 1) := by decide +kernel
theorem dX12_nextRow_63 : decode cX12_nextRow 63 = .ok (.iload_n 2, 1) := by decide +kernel
theorem dX12_nextRow_64 : decode cX12_nextRow 64 = .ok (.iload_n 3, 1) := by decide +kernel
theorem dX12_nextRow_65 : decode cX12_nextRow 65 = .ok (.invokevirtual 518, 3) := by decide +kernel
theorem dX12_nextRow_68 : decode cX12_nextRow 68 = .ok (.iinc 2 1, 3) := by decide +kernel
theorem dX12_nextRow_71 : decode cX12_nextRow 71 = .ok (.iload_n 1, 1) := by decide +kernel
theorem dX12_nextRow_72 : decode cX12_nextRow 72 = .ok (.iconst 1, 1) := by decide +kernel
theorem dX12_nextRow_73 : decode cX12_nextRow 73 = .ok (.isub, 1) := by decide +kernel
theorem dX12_nextRow_74 : decode cX12_nextRow 74 = .ok (.istore_n 3, 1) := by decide +kernel
theorem dX12_nextRow_75 : decode cX12_nextRow 75 = .ok (.iload_n 2, 1) := by decide +kernel
theorem dX12_nextRow_76 : decode cX12_nextRow 76 = .ok (.iload_n 3, 1) := by decide +kernel
theorem dX12_nextRow_77 : decode cX12_nextRow 77 = .ok (.if_icmp .ge 18, 3) := by decide +kernel
theorem dX12_nextRow_80 : decode cX12_nextRow 80 = .ok (.aload_n 0, 1) := by decide +kernel
theorem dX12_nextRow_81 : decode cX12_nextRow 81 = .ok (.iload_n 2, 1) := by decide +kernel
theorem dX12_nextRow_82 : decode cX12_nextRow 82 = .ok (.iload_n 3, 1) := by decide +kernel
theorem dX12_nextRow_83 : decode cX12_nextRow 83 = .ok (.invokevirtual 518, 3) := by decide +kernel
theorem dX12_nextRow_86 : decode cX12_nextRow 86 = .ok (.iinc 2 1, 3) := by decide +kernel
theorem dX12_nextRow_89 : decode cX12_nextRow 89 = .ok (.iinc 3 (-1), 3) := by decide +kernel
theorem dX12_nextRow_92 : decode cX12_nextRow 92 = .ok (.goto (-17), 3) := by decide +kernel
theorem dX12_nextRow_95 : decode cX12_nextRow 95 = .ok (.iconst 1, 1) := by decide +kernel
theorem dX12_nextRow_96 : decode cX12_nextRow 96 = .ok (.ireturn, 1) := by decide +kernel
theorem dX12_serialRows_0 : decode cX12_serialRows 0 = .ok (.aload_n 0, 1) := by decide +kernel
theorem dX12_serialRows_1 : decode cX12_serialRows 1 = .ok (.invokevirtual 521, 3) := by decide +kernel
theorem dX12_serialRows_4 : decode cX12_serialRows 4 = .ok (.iconst 0, 1) := by decide +kernel
theorem dX12_serialRows_5 : decode cX12_serialRows 5 = .ok (.istore_n 1, 1) := by decide +kernel
theorem dX12_serialRows_6 : decode cX12_serialRows 6 = .ok (.iload_n 1, 1) := by decide +kernel
theorem dX12_serialRows_7 : decode cX12_serialRows 7 = .ok (.bipush 6, 2) := by decide +kernel
theorem dX12_serialRows_9 : decode cX12_serialRows 9 = .ok (.if_icmp .ge 16, 3) := by decide +kernel
theorem dX12_serialRows_12 : decode cX12_serialRows 12 = .ok (.aload_n 0, 1) := by decide +kernel
theorem dX12_serialRows_13 : decode cX12_serialRows 13 = .ok (.getfield 131, 3) := by decide +kernel
theorem dX12_serialRows_16 : decode cX12_serialRows 16 = .ok (.iload_n 1, 1) := by decide +kernel
theorem dX12_serialRows_17 : decode cX12_serialRows 17 = .ok (.iload_n 1, 1) := by decide +kernel
theorem dX12_serialRows_18 : decode cX12_serialRows 18 = .ok (.iastore, 1) := by decide +kernel
theorem dX12_serialRows_19 : decode cX12_serialRows 19 = .ok (.iinc 1 1, 3) := by decide +kernel
theorem dX12_serialRows_22 : decode cX12_serialRows 22 = .ok (.goto (-16), 3) := by decide +kernel
theorem dX12_serialRows_25 : decode cX12_serialRows 25 = .ok (.iconst 0, 1) := by decide +kernel
theorem dX12_serialRows_26 : decode cX12_serialRows 26 = .ok (.istore_n 1, 1) := by decide +kernel
theorem dX12_serialRows_27 : decode cX12_serialRows 27 = .ok (.iconst 1, 1) := by decide +kernel
theorem dX12_serialRows_28 : decode cX12_serialRows 28 = .ok (.istore_n 2, 1) := by decide +kernel
theorem dX12_serialRows_29 : decode cX12_serialRows 29 = .ok (.iload_n 2, 1) := by decide +kernel
theorem dX12_serialRows_30 : decode cX12_serialRows 30 = .ok (.ifCond .eq 110, 3) := by decide +kernel
theorem dX12_serialRows_33 : decode cX12_serialRows 33 = .ok (.aload_n 0, 1) := by decide +kernel
theorem dX12_serialRows_34 : decode cX12_serialRows 34 = .ok (.invokevirtual 339, 3) := by decide +kernel
theorem dX12_serialRows_37 : decode cX12_serialRows 37 = .ok (.iconst 0, 1) := by decide +kernel
theorem dX12_serialRows_38 : decode cX12_serialRows 38 = .ok (.istore_n 3, 1) := by decide +kernel
theorem dX12_serialRows_39 : decode cX12_serialRows 39 = .ok (.iload_n 3, 1) := by decide +kernel
theorem dX12_serialRows_40 : decode cX12_serialRows 40 = .ok (.aload_n 0, 1) := by decide +kernel
theorem dX12_serialRows_41 : decode cX12_serialRows 41 = .ok (.getfield 509, 3) := by decide +kernel
theorem dX12_serialRows_44 : decode cX12_serialRows 44 = .ok (.if_icmp .ge 29, 3) := by decide +kernel
theorem dX12_serialRows_47 : decode cX12_serialRows 47 = .ok (.aload_n 0, 1) := by decide +kernel
theorem dX12_serialRows_48 : decode cX12_serialRows 48 = .ok (.aload_n 0, 1) := by decide +kernel
theorem dX12_serialRows_49 : decode cX12_serialRows 49 = .ok (.getfield 89, 3) := by decide +kernel
theorem dX12_serialRows_52 : decode cX12_serialRows 52 = .ok (.aload_n 0, 1) := by decide +kernel
theorem dX12_serialRows_53 : decode cX12_serialRows 53 = .ok (.getfield 125, 3) := by decide +kernel
theorem dX12_serialRows_56 : decode cX12_serialRows 56 = .ok (.aload_n 0, 1) := by decide +kernel
theorem dX12_serialRows_57 : decode cX12_serialRows 57 = .ok (.getfield 131, 3) := by decide +kernel
theorem dX12_serialRows_60 : decode cX12_serialRows 60 = .ok (.iload_n 3, 1) := by decide +kernel
theorem dX12_serialRows_61 : decode cX12_serialRows 61 = .ok (.iaload, 1) := by decide +kernel
theorem dX12_serialRows_62 : decode cX12_serialRows 62 = .ok (.iaload, 1) := by decide +kernel
theorem dX12_serialRows_63 : decode cX12_serialRows 63 = .ok (.iaload, 1) := by decide +kernel
theorem dX12_serialRows_64 : decode cX12_serialRows 64 = .ok (.invokevirtual 524, 3) := by decide +kernel
theorem dX12_serialRows_67 : decode cX12_serialRows 67 = .ok (.iinc 3 1, 3) := by decide +kernel
theorem dX12_serialRows_70 : decode cX12_serialRows 70 = .ok (.goto (-31), 3) := by decide +kernel
theorem dX12_serialRows_73 : decode cX12_serialRows 73 = .ok (.aload_n 0, 1) := by decide +kernel
theorem dX12_serialRows_74 : decode cX12_serialRows 74 = .ok (.invokevirtual 527, 3) := by decide +kernel
theorem dX12_serialRows_77 : decode cX12_serialRows 77 = .ok (.istore_n 3, 1) := by decide +kernel
theorem dX12_serialRows_78 : decode cX12_serialRows 78 = .ok (.iconst 0, 1) := by decide +kernel
theorem dX12_serialRows_79 : decode cX12_serialRows 79 = .ok (.istore 4, 2) := by decide +kernel
theorem dX12_serialRows_81 : decode cX12_serialRows 81 = .ok (.iload 4, 2) := by decide +kernel
theorem dX12_serialRows_83 : decode cX12_serialRows 83 = .ok (.bipush 6, 2) := by decide +kernel
theorem dX12_serialRows_85 : decode cX12_serialRows 85 = .ok (.if_icmp .ge 31, 3) := by decide +kernel
theorem dX12_serialRows_88 : decode cX12_serialRows 88 = .ok (.iload_n 3, 1) := by decide +kernel
theorem dX12_serialRows_89 : decode cX12_serialRows 89 = .ok (.ifCond .eq 27, 3) := by decide +kernel
theorem dX12_serialRows_92 : decode cX12_serialRows 92 = .ok (.iload_n 1, 1) := by decide +kernel
theorem dX12_serialRows_93 : decode cX12_serialRows 93 = .ok (.ifCond .ne 23, 3) := by decide +kernel
theorem dX12_serialRows_96 : decode cX12_serialRows 96 = .ok (.aload_n 0, 1) := by decide +kernel
theorem dX12_serialRows_97 : decode cX12_serialRows 97 = .ok (.getfield 134, 3) := by decide +kernel
theorem dX12_serialRows_100 : decode cX12_serialRows 100 = .ok (.iload 4, 2) := by decide +kernel
theorem dX12_serialRows_102 : decode cX12_serialRows 102 = .ok (.aload_n 0, 1) := by decide +kernel
theorem dX12_serialRows_103 : decode cX12_serialRows 103 = .ok (.getfield 131, 3) := by decide +kernel
theorem dX12_serialRows_106 : decode cX12_serialRows 106 = .ok (.iload 4, 2) := by decide +kernel
theorem dX12_serialRows_108 : decode cX12_serialRows 108 = .ok (.iaload, 1) := by decide +kernel
theorem dX12_serialRows_109 : decode cX12_serialRows 109 = .ok (.iastore, 1) := by decide +kernel
theorem dX12_serialRows_110 : decode cX12_serialRows 110 = .ok (.iinc 4 1, 3) := by decide +kernel
theorem dX12_serialRows_113 : decode cX12_serialRows 113 = .ok (.goto (-32), 3) := by decide +kernel
theorem dX12_serialRows_116 : decode cX12_serialRows 116 = .ok (.iload_n 1, 1) := by decide +kernel
theorem dX12_serialRows_117 : decode cX12_serialRows 117 = .ok (.iload_n 3, 1) := by decide +kernel
theorem dX12_serialRows_118 : decode cX12_serialRows 118 = .ok (.ifCond .eq 7, 3) := by decide +kernel
theorem dX12_serialRows_121 : decode cX12_serialRows 121 = .ok (.iconst 1, 1) := by decide +kernel
theorem dX12_serialRows_122 : decode cX12_serialRows 122 = .ok (.goto 4, 3) := by decide +kernel
theorem dX12_serialRows_125 : decode cX12_serialRows 125 = .ok (.iconst 0, 1) := by decide +kernel
theorem dX12_serialRows_126 : decode cX12_serialRows 126 = .ok (.iadd, 1) := by decide +kernel
theorem dX12_serialRows_127 : decode cX12_serialRows 127 = .ok (.istore_n 1, 1) := by decide +kernel
theorem dX12_serialRows_128 : decode cX12_serialRows 128 = .ok (.aload_n 0, 1) := by decide +kernel
theorem dX12_serialRows_129 : decode cX12_serialRows 129 = .ok (.aload_n 0, 1) := by decide +kernel
theorem dX12_serialRows_130 : decode cX12_serialRows 130 = .ok (.getfield 509, 3) := by decide +kernel
theorem dX12_serialRows_133 : decode cX12_serialRows 133 = .ok (.invokevirtual 530, 3) := by decide +kernel
theorem dX12_serialRows_136 : decode cX12_serialRows 136 = .ok (.istore_n 2, 1) := by decide +kernel
theorem dX12_serialRows_137 : decode cX12_serialRows 137 = .ok (.goto (-108), 3) := by decide +kernel
theorem dX12_serialRows_140 : decode cX12_serialRows 140 = .ok (.iload_n 1, 1) := by decide +kernel
theorem dX12_serialRows_141 : decode cX12_serialRows 141 = .ok (.ireturn, 1) := by decide +kernel
theorem dX12_serial_0 : decode cX12_serial 0 = .ok (.aload_n 0, 1) := by decide +kernel
theorem dX12_serial_1 : decode cX12_serial 1 = .ok (.iconst 0, 1) := by decide +kernel
theorem dX12_serial_2 : decode cX12_serial 2 = .ok (.putfield 144, 3) := by decide +kernel
theorem dX12_serial_5 : decode cX12_serial 5 = .ok (.aload_n 0, 1) := by decide +kernel
theorem dX12_serial_6 : decode cX12_serial 6 = .ok (.iload_n 1, 1) := by decide +kernel
theorem dX12_serial_7 : decode cX12_serial 7 = .ok (.iload_n 2, 1) := by decide +kernel
theorem dX12_serial_8 : decode cX12_serial 8 = .ok (.iload_n 3, 1) := by decide +kernel
theorem dX12_serial_9 : decode cX12_serial 9 = .ok (.invokevirtual 490, 3) := by decide +kernel
theorem dX12_serial_12 : decode cX12_serial 12 = .ok (.ifCond .ne 5, 3) := by decide +kernel
theorem dX12_serial_15 : decode cX12_serial 15 = .ok (.iconst (-1), 1) := by decide +kernel
theorem dX12_serial_16 : decode cX12_serial 16 = .ok (.ireturn, 1) := by decide +kernel
theorem dX12_serial_17 : decode cX12_serial 17 = .ok (.aload_n 0, 1) := by decide +kernel
theorem dX12_serial_18 : decode cX12_serial 18 = .ok (.aload_n 0, 1) := by decide +kernel
theorem dX12_serial_19 : decode cX12_serial 19 = .ok (.invokevirtual 477, 3) := by decide +kernel
theorem dX12_serial_22 : decode cX12_serial 22 = .ok (.invokevirtual 493, 3) := by decide +kernel
theorem dX12_serial_25 : decode cX12_serial 25 = .ok (.pop, 1) := by decide +kernel
theorem dX12_serial_26 : decode cX12_serial 26 = .ok (.aload_n 0, 1) := by decide +kernel
theorem dX12_serial_27 : decode cX12_serial 27 = .ok (.invokevirtual 533, 3) := by decide +kernel
theorem dX12_serial_30 : decode cX12_serial 30 = .ok (.iload 4, 2) := by decide +kernel
theorem dX12_serial_32 : decode cX12_serial 32 = .ok (.iconst 0, 1) := by decide +kernel
theorem dX12_serial_33 : decode cX12_serial 33 = .ok (.iconst 1, 1) := by decide +kernel
theorem dX12_serial_34 : decode cX12_serial 34 = .ok (.invokestatic 156, 3) := by decide +kernel
theorem dX12_serial_37 : decode cX12_serial 37 = .ok (.ifCond .eq 33, 3) := by decide +kernel
theorem dX12_serial_40 : decode cX12_serial 40 = .ok (.iload 4, 2) := by decide +kernel
theorem dX12_serial_42 : decode cX12_serial 42 = .ok (.ifCond .ne 10, 3) := by decide +kernel
theorem dX12_serial_45 : decode cX12_serial 45 = .ok (.aload_n 0, 1) := by decide +kernel
theorem dX12_serial_46 : decode cX12_serial 46 = .ok (.getfield 509, 3) := by decide +kernel
theorem dX12_serial_49 : decode cX12_serial 49 = .ok (.goto 20, 3) := by decide +kernel
theorem dX12_serial_52 : decode cX12_serial 52 = .ok (.aload_n 0, 1) := by decide +kernel
theorem dX12_serial_53 : decode cX12_serial 53 = .ok (.getfield 509, 3) := by decide +kernel
theorem dX12_serial_56 : decode cX12_serial 56 = .ok (.bipush 6, 2) := by decide +kernel
theorem dX12_serial_58 : decode cX12_serial 58 = .ok (.if_icmp .le 7, 3) := by decide +kernel
theorem dX12_serial_61 : decode cX12_serial 61 = .ok (.iconst (-1), 1) := by decide +kernel
theorem dX12_serial_62 : decode cX12_serial 62 = .ok (.goto 7, 3) := by decide +kernel
theorem dX12_serial_65 : decode cX12_serial 65 = .ok (.aload_n 0, 1) := by decide +kernel
theorem dX12_serial_66 : decode cX12_serial 66 = .ok (.invokevirtual 536, 3) := by decide +kernel
theorem dX12_serial_69 : decode cX12_serial 69 = .ok (.ireturn, 1) := by decide +kernel
theorem dX12_serial_70 : decode cX12_serial 70 = .ok (.iload 4, 2) := by decide +kernel
theorem dX12_serial_72 : decode cX12_serial 72 = .ok (.bipush 10, 2) := by decide +kernel
theorem dX12_serial_74 : decode cX12_serial 74 = .ok (.irem, 1) := by decide +kernel
theorem dX12_serial_75 : decode cX12_serial 75 = .ok (.istore 5, 2) := by decide +kernel
theorem dX12_serial_77 : decode cX12_serial 77 = .ok (.iload 4, 2) := by decide +kernel
theorem dX12_serial_79 : decode cX12_serial 79 = .ok (.bipush 10, 2) := by decide +kernel
theorem dX12_serial_81 : decode cX12_serial 81 = .ok (.if_icmp .lt 12, 3) := by decide +kernel
theorem dX12_serial_84 : decode cX12_serial 84 = .ok (.iload 5, 2) := by decide +kernel
theorem dX12_serial_86 : decode cX12_serial 86 = .ok (.aload_n 0, 1) := by decide +kernel
theorem dX12_serial_87 : decode cX12_serial 87 = .ok (.getfield 509, 3) := by decide +kernel
theorem dX12_serial_90 : decode cX12_serial 90 = .ok (.if_icmp .lt 5, 3) := by decide +kernel
theorem dX12_serial_93 : decode cX12_serial 93 = .ok (.iconst (-1), 1) := by decide +kernel
theorem dX12_serial_94 : decode cX12_serial 94 = .ok (.ireturn, 1) := by decide +kernel
theorem dX12_serial_95 : decode cX12_serial 95 = .ok (.iload 4, 2) := by decide +kernel
theorem dX12_serial_97 : decode cX12_serial 97 = .ok (.bipush 10, 2) := by decide +kernel
theorem dX12_serial_99 : decode cX12_serial 99 = .ok (.idiv, 1) := by decide +kernel
theorem dX12_serial_100 : decode cX12_serial 100 = .ok (.tableswitch 97 1 5 #[36, 49, 62, 97, 69], 36) := by decide +kernel
theorem dX12_serial_136 : decode cX12_serial 136 = .ok (.aload_n 0, 1) := by decide +kernel
theorem dX12_serial_137 : decode cX12_serial 137 = .ok (.getfield 89, 3) := by decide +kernel
theorem dX12_serial_140 : decode cX12_serial 140 = .ok (.aload_n 0, 1) := by decide +kernel
theorem dX12_serial_141 : decode cX12_serial 141 = .ok (.getfield 125, 3) := by decide +kernel
theorem dX12_serial_144 : decode cX12_serial 144 = .ok (.iload 5, 2) := by decide +kernel
theorem dX12_serial_146 : decode cX12_serial 146 = .ok (.iaload, 1) := by decide +kernel
theorem dX12_serial_147 : decode cX12_serial 147 = .ok (.iaload, 1) := by decide +kernel
theorem dX12_serial_148 : decode cX12_serial 148 = .ok (.ireturn, 1) := by decide +kernel
theorem dX12_serial_149 : decode cX12_serial 149 = .ok (.aload_n 0, 1) := by decide +kernel
theorem dX12_serial_150 : decode cX12_serial 150 = .ok (.getfield 95, 3) := by decide +kernel
theorem dX12_serial_153 : decode cX12_serial 153 = .ok (.aload_n 0, 1) := by decide +kernel
theorem dX12_serial_154 : decode cX12_serial 154 = .ok (.getfield 125, 3) := by decide +kernel
theorem dX12_serial_157 : decode cX12_serial 157 = .ok (.iload 5, 2) := by decide +kernel
theorem dX12_serial_159 : decode cX12_serial 159 = .ok (.iaload, 1) := by decide +kernel
theorem dX12_serial_160 : decode cX12_serial 160 = .ok (.iaload, 1) := by decide +kernel
theorem dX12_serial_161 : decode cX12_serial 161 = .ok (.ireturn, 1) := by decide +kernel
theorem dX12_serial_162 : decode cX12_serial 162 = .ok (.aload_n 0, 1) := by decide +kernel
theorem dX12_serial_163 : decode cX12_serial 163 = .ok (.iload 5, 2) := by decide +kernel
theorem dX12_serial_165 : decode cX12_serial 165 = .ok (.invokevirtual 539, 3) := by decide +kernel
theorem dX12_serial_168 : decode cX12_serial 168 = .ok (.ireturn, 1) := by decide +kernel
theorem dX12_serial_169 : decode cX12_serial 169 = .ok (.aload_n 0, 1) := by decide +kernel
theorem dX12_serial_170 : decode cX12_serial 170 = .ok (.getfield 509, 3) := by decide +kernel
theorem dX12_serial_173 : decode cX12_serial 173 = .ok (.bipush 6, 2) := by decide +kernel
theorem dX12_serial_175 : decode cX12_serial 175 = .ok (.if_icmp .gt 10, 3) := by decide +kernel
theorem dX12_serial_178 : decode cX12_serial 178 = .ok (.aload_n 0, 1) := by decide +kernel
theorem dX12_serial_179 : decode cX12_serial 179 = .ok (.invokevirtual 536, 3) := by decide +kernel
theorem dX12_serial_182 : decode cX12_serial 182 = .ok (.ifCond .ne 7, 3) := by decide +kernel
theorem dX12_serial_185 : decode cX12_serial 185 = .ok (.iconst (-1), 1) := by decide +kernel
theorem dX12_serial_186 : decode cX12_serial 186 = .ok (.goto 10, 3) := by decide +kernel
theorem dX12_serial_189 : decode cX12_serial 189 = .ok (.aload_n 0, 1) := by decide +kernel
theorem dX12_serial_190 : decode cX12_serial 190 = .ok (.getfield 134, 3) := by decide +kernel
theorem dX12_serial_193 : decode cX12_serial 193 = .ok (.iload 5, 2) := by decide +kernel
theorem dX12_serial_195 : decode cX12_serial 195 = .ok (.iaload, 1) := by decide +kernel
theorem dX12_serial_196 : decode cX12_serial 196 = .ok (.ireturn, 1) := by decide +kernel
theorem dX12_serial_197 : decode cX12_serial 197 = .ok (.iconst (-1), 1) := by decide +kernel
theorem dX12_serial_198 : decode cX12_serial 198 = .ok (.ireturn, 1) := by decide +kernel
theorem dX12_facts_0 : decode cX12_facts 0 = .ok (.aload_n 0, 1) := by decide +kernel
theorem dX12_facts_1 : decode cX12_facts 1 = .ok (.getfield 35, 3) := by decide +kernel
theorem dX12_facts_4 : decode cX12_facts 4 = .ok (.bipush 17, 2) := by decide +kernel
theorem dX12_facts_6 : decode cX12_facts 6 = .ok (.aload_n 0, 1) := by decide +kernel
theorem dX12_facts_7 : decode cX12_facts 7 = .ok (.getfield 542, 3) := by decide +kernel
theorem dX12_facts_10 : decode cX12_facts 10 = .ok (.imul, 1) := by decide +kernel
theorem dX12_facts_11 : decode cX12_facts 11 = .ok (.iaload, 1) := by decide +kernel
theorem dX12_facts_12 : decode cX12_facts 12 = .ok (.ireturn, 1) := by decide +kernel
theorem dX12_factOf_0 : decode cX12_factOf 0 = .ok (.aload_n 0, 1) := by decide +kernel
theorem dX12_factOf_1 : decode cX12_factOf 1 = .ok (.getfield 35, 3) := by decide +kernel
theorem dX12_factOf_4 : decode cX12_factOf 4 = .ok (.bipush 17, 2) := by decide +kernel
theorem dX12_factOf_6 : decode cX12_factOf 6 = .ok (.aload_n 0, 1) := by decide +kernel
theorem dX12_factOf_7 : decode cX12_factOf 7 = .ok (.getfield 542, 3) := by decide +kernel
theorem dX12_factOf_10 : decode cX12_factOf 10 = .ok (.imul, 1) := by decide +kernel
theorem dX12_factOf_11 : decode cX12_factOf 11 = .ok (.iconst 1, 1) := by decide +kernel
theorem dX12_factOf_12 : decode cX12_factOf 12 = .ok (.iadd, 1) := by decide +kernel
theorem dX12_factOf_13 : decode cX12_factOf 13 = .ok (.iconst 2, 1) := by decide +kernel
theorem dX12_factOf_14 : decode cX12_factOf 14 = .ok (.iload_n 1, 1) := by decide +kernel
theorem dX12_factOf_15 : decode cX12_factOf 15 = .ok (.imul, 1) := by decide +kernel
theorem dX12_factOf_16 : decode cX12_factOf 16 = .ok (.iadd, 1) := by decide +kernel
theorem dX12_factOf_17 : decode cX12_factOf 17 = .ok (.iload_n 2, 1) := by decide +kernel
theorem dX12_factOf_18 : decode cX12_factOf 18 = .ok (.iadd, 1) := by decide +kernel
theorem dX12_factOf_19 : decode cX12_factOf 19 = .ok (.iaload, 1) := by decide +kernel
theorem dX12_factOf_20 : decode cX12_factOf 20 = .ok (.ireturn, 1) := by decide +kernel
theorem dX12_hasDiary_0 : decode cX12_hasDiary 0 = .ok (.aload_n 0, 1) := by decide +kernel
theorem dX12_hasDiary_1 : decode cX12_hasDiary 1 = .ok (.iload_n 1, 1) := by decide +kernel
theorem dX12_hasDiary_2 : decode cX12_hasDiary 2 = .ok (.putfield 542, 3) := by decide +kernel
theorem dX12_hasDiary_5 : decode cX12_hasDiary 5 = .ok (.aload_n 0, 1) := by decide +kernel
theorem dX12_hasDiary_6 : decode cX12_hasDiary 6 = .ok (.iconst 3, 1) := by decide +kernel
theorem dX12_hasDiary_7 : decode cX12_hasDiary 7 = .ok (.iload_n 1, 1) := by decide +kernel
theorem dX12_hasDiary_8 : decode cX12_hasDiary 8 = .ok (.invokevirtual 305, 3) := by decide +kernel
theorem dX12_hasDiary_11 : decode cX12_hasDiary 11 = .ok (.ireturn, 1) := by decide +kernel
theorem dX12_fact_0 : decode cX12_fact 0 = .ok (.aload_n 0, 1) := by decide +kernel
theorem dX12_fact_1 : decode cX12_fact 1 = .ok (.iconst 0, 1) := by decide +kernel
theorem dX12_fact_2 : decode cX12_fact 2 = .ok (.putfield 144, 3) := by decide +kernel
theorem dX12_fact_5 : decode cX12_fact 5 = .ok (.aload_n 0, 1) := by decide +kernel
theorem dX12_fact_6 : decode cX12_fact 6 = .ok (.iload_n 1, 1) := by decide +kernel
theorem dX12_fact_7 : decode cX12_fact 7 = .ok (.invokevirtual 545, 3) := by decide +kernel
theorem dX12_fact_10 : decode cX12_fact 10 = .ok (.ifCond .ne 6, 3) := by decide +kernel
theorem dX12_fact_13 : decode cX12_fact 13 = .ok (.bipush (-2), 2) := by decide +kernel
theorem dX12_fact_15 : decode cX12_fact 15 = .ok (.ireturn, 1) := by decide +kernel
theorem dX12_fact_16 : decode cX12_fact 16 = .ok (.iload_n 2, 1) := by decide +kernel
theorem dX12_fact_17 : decode cX12_fact 17 = .ok (.iconst (-1), 1) := by decide +kernel
theorem dX12_fact_18 : decode cX12_fact 18 = .ok (.if_icmp .ne 17, 3) := by decide +kernel
theorem dX12_fact_21 : decode cX12_fact 21 = .ok (.iload_n 3, 1) := by decide +kernel
theorem dX12_fact_22 : decode cX12_fact 22 = .ok (.ifCond .ne 10, 3) := by decide +kernel
theorem dX12_fact_25 : decode cX12_fact 25 = .ok (.aload_n 0, 1) := by decide +kernel
theorem dX12_fact_26 : decode cX12_fact 26 = .ok (.invokevirtual 548, 3) := by decide +kernel
theorem dX12_fact_29 : decode cX12_fact 29 = .ok (.goto 5, 3) := by decide +kernel
theorem dX12_fact_32 : decode cX12_fact 32 = .ok (.bipush (-2), 2) := by decide +kernel
theorem dX12_fact_34 : decode cX12_fact 34 = .ok (.ireturn, 1) := by decide +kernel
theorem dX12_fact_35 : decode cX12_fact 35 = .ok (.iload_n 2, 1) := by decide +kernel
theorem dX12_fact_36 : decode cX12_fact 36 = .ok (.iconst 0, 1) := by decide +kernel
theorem dX12_fact_37 : decode cX12_fact 37 = .ok (.aload_n 0, 1) := by decide +kernel
theorem dX12_fact_38 : decode cX12_fact 38 = .ok (.invokevirtual 548, 3) := by decide +kernel
theorem dX12_fact_41 : decode cX12_fact 41 = .ok (.iconst 1, 1) := by decide +kernel
theorem dX12_fact_42 : decode cX12_fact 42 = .ok (.isub, 1) := by decide +kernel
theorem dX12_fact_43 : decode cX12_fact 43 = .ok (.invokestatic 156, 3) := by decide +kernel
theorem dX12_fact_46 : decode cX12_fact 46 = .ok (.ifCond .eq 21, 3) := by decide +kernel
theorem dX12_fact_49 : decode cX12_fact 49 = .ok (.iload_n 3, 1) := by decide +kernel
theorem dX12_fact_50 : decode cX12_fact 50 = .ok (.iconst 0, 1) := by decide +kernel
theorem dX12_fact_51 : decode cX12_fact 51 = .ok (.iconst 1, 1) := by decide +kernel
theorem dX12_fact_52 : decode cX12_fact 52 = .ok (.invokestatic 156, 3) := by decide +kernel
theorem dX12_fact_55 : decode cX12_fact 55 = .ok (.ifCond .eq 12, 3) := by decide +kernel
theorem dX12_fact_58 : decode cX12_fact 58 = .ok (.aload_n 0, 1) := by decide +kernel
theorem dX12_fact_59 : decode cX12_fact 59 = .ok (.iload_n 2, 1) := by decide +kernel
theorem dX12_fact_60 : decode cX12_fact 60 = .ok (.iload_n 3, 1) := by decide +kernel
theorem dX12_fact_61 : decode cX12_fact 61 = .ok (.invokevirtual 551, 3) := by decide +kernel
theorem dX12_fact_64 : decode cX12_fact 64 = .ok (.goto 5, 3) := by decide +kernel
theorem dX12_fact_67 : decode cX12_fact 67 = .ok (.bipush (-2), 2) := by decide +kernel
theorem dX12_fact_69 : decode cX12_fact 69 = .ok (.ireturn, 1) := by decide +kernel
theorem dX12_valueNow_0 : decode cX12_valueNow 0 = .ok (.aload_n 0, 1) := by decide +kernel
theorem dX12_valueNow_1 : decode cX12_valueNow 1 = .ok (.getfield 336, 3) := by decide +kernel
theorem dX12_valueNow_4 : decode cX12_valueNow 4 = .ok (.iload_n 1, 1) := by decide +kernel
theorem dX12_valueNow_5 : decode cX12_valueNow 5 = .ok (.invokestatic 148, 3) := by decide +kernel
theorem dX12_valueNow_8 : decode cX12_valueNow 8 = .ok (.ifCond .eq 12, 3) := by decide +kernel
theorem dX12_valueNow_11 : decode cX12_valueNow 11 = .ok (.aload_n 0, 1) := by decide +kernel
theorem dX12_valueNow_12 : decode cX12_valueNow 12 = .ok (.getfield 44, 3) := by decide +kernel
theorem dX12_valueNow_15 : decode cX12_valueNow 15 = .ok (.iload_n 1, 1) := by decide +kernel
theorem dX12_valueNow_16 : decode cX12_valueNow 16 = .ok (.iaload, 1) := by decide +kernel
theorem dX12_valueNow_17 : decode cX12_valueNow 17 = .ok (.goto 4, 3) := by decide +kernel
theorem dX12_valueNow_20 : decode cX12_valueNow 20 = .ok (.iconst (-1), 1) := by decide +kernel
theorem dX12_valueNow_21 : decode cX12_valueNow 21 = .ok (.ireturn, 1) := by decide +kernel
theorem dX12_isSo_0 : decode cX12_isSo 0 = .ok (.iconst 0, 1) := by decide +kernel
theorem dX12_isSo_1 : decode cX12_isSo 1 = .ok (.istore_n 1, 1) := by decide +kernel
theorem dX12_isSo_2 : decode cX12_isSo 2 = .ok (.iload_n 1, 1) := by decide +kernel
theorem dX12_isSo_3 : decode cX12_isSo 3 = .ok (.aload_n 0, 1) := by decide +kernel
theorem dX12_isSo_4 : decode cX12_isSo 4 = .ok (.invokevirtual 548, 3) := by decide +kernel
theorem dX12_isSo_7 : decode cX12_isSo 7 = .ok (.if_icmp .ge 30, 3) := by decide +kernel
theorem dX12_isSo_10 : decode cX12_isSo 10 = .ok (.aload_n 0, 1) := by decide +kernel
theorem dX12_isSo_11 : decode cX12_isSo 11 = .ok (.aload_n 0, 1) := by decide +kernel
theorem dX12_isSo_12 : decode cX12_isSo 12 = .ok (.iload_n 1, 1) := by decide +kernel
theorem dX12_isSo_13 : decode cX12_isSo 13 = .ok (.iconst 0, 1) := by decide +kernel
theorem dX12_isSo_14 : decode cX12_isSo 14 = .ok (.invokevirtual 551, 3) := by decide +kernel
theorem dX12_isSo_17 : decode cX12_isSo 17 = .ok (.invokevirtual 554, 3) := by decide +kernel
theorem dX12_isSo_20 : decode cX12_isSo 20 = .ok (.aload_n 0, 1) := by decide +kernel
theorem dX12_isSo_21 : decode cX12_isSo 21 = .ok (.iload_n 1, 1) := by decide +kernel
theorem dX12_isSo_22 : decode cX12_isSo 22 = .ok (.iconst 1, 1) := by decide +kernel
theorem dX12_isSo_23 : decode cX12_isSo 23 = .ok (.invokevirtual 551, 3) := by decide +kernel
theorem dX12_isSo_26 : decode cX12_isSo 26 = .ok (.if_icmp .eq 5, 3) := by decide +kernel
theorem dX12_isSo_29 : decode cX12_isSo 29 = .ok (.iconst 0, 1) := by decide +kernel
theorem dX12_isSo_30 : decode cX12_isSo 30 = .ok (.ireturn, 1) := by decide +kernel
theorem dX12_isSo_31 : decode cX12_isSo 31 = .ok (.iinc 1 1, 3) := by decide +kernel
theorem dX12_isSo_34 : decode cX12_isSo 34 = .ok (.goto (-32), 3) := by decide +kernel
theorem dX12_isSo_37 : decode cX12_isSo 37 = .ok (.iconst 1, 1) := by decide +kernel
theorem dX12_isSo_38 : decode cX12_isSo 38 = .ok (.ireturn, 1) := by decide +kernel
theorem dX12_playFlushed_0 : decode cX12_playFlushed 0 = .ok (.aload_n 0, 1) := by decide +kernel
theorem dX12_playFlushed_1 : decode cX12_playFlushed 1 = .ok (.invokevirtual 375, 3) := by decide +kernel
theorem dX12_playFlushed_4 : decode cX12_playFlushed 4 = .ok (.aload_n 0, 1) := by decide +kernel
theorem dX12_playFlushed_5 : decode cX12_playFlushed 5 = .ok (.aload_n 0, 1) := by decide +kernel
theorem dX12_playFlushed_6 : decode cX12_playFlushed 6 = .ok (.invokevirtual 477, 3) := by decide +kernel
theorem dX12_playFlushed_9 : decode cX12_playFlushed 9 = .ok (.invokevirtual 493, 3) := by decide +kernel
theorem dX12_playFlushed_12 : decode cX12_playFlushed 12 = .ok (.pop, 1) := by decide +kernel
theorem dX12_playFlushed_13 : decode cX12_playFlushed 13 = .ok (.iconst 0, 1) := by decide +kernel
theorem dX12_playFlushed_14 : decode cX12_playFlushed 14 = .ok (.istore_n 2, 1) := by decide +kernel
theorem dX12_playFlushed_15 : decode cX12_playFlushed 15 = .ok (.iload_n 2, 1) := by decide +kernel
theorem dX12_playFlushed_16 : decode cX12_playFlushed 16 = .ok (.aload_n 0, 1) := by decide +kernel
theorem dX12_playFlushed_17 : decode cX12_playFlushed 17 = .ok (.getfield 326, 3) := by decide +kernel
theorem dX12_playFlushed_20 : decode cX12_playFlushed 20 = .ok (.if_icmp .ge 22, 3) := by decide +kernel
theorem dX12_playFlushed_23 : decode cX12_playFlushed 23 = .ok (.iload_n 1, 1) := by decide +kernel
theorem dX12_playFlushed_24 : decode cX12_playFlushed 24 = .ok (.iload_n 2, 1) := by decide +kernel
theorem dX12_playFlushed_25 : decode cX12_playFlushed 25 = .ok (.invokestatic 148, 3) := by decide +kernel
theorem dX12_playFlushed_28 : decode cX12_playFlushed 28 = .ok (.ifCond .eq 8, 3) := by decide +kernel
theorem dX12_playFlushed_31 : decode cX12_playFlushed 31 = .ok (.aload_n 0, 1) := by decide +kernel
theorem dX12_playFlushed_32 : decode cX12_playFlushed 32 = .ok (.iload_n 2, 1) := by decide +kernel
theorem dX12_playFlushed_33 : decode cX12_playFlushed 33 = .ok (.invokevirtual 466, 3) := by decide +kernel
theorem dX12_playFlushed_36 : decode cX12_playFlushed 36 = .ok (.iinc 2 1, 3) := by decide +kernel
theorem dX12_playFlushed_39 : decode cX12_playFlushed 39 = .ok (.goto (-24), 3) := by decide +kernel
theorem dX12_playFlushed_42 : decode cX12_playFlushed 42 = .ok (.aload_n 0, 1) := by decide +kernel
theorem dX12_playFlushed_43 : decode cX12_playFlushed 43 = .ok (.invokevirtual 454, 3) := by decide +kernel
theorem dX12_playFlushed_46 : decode cX12_playFlushed 46 = .ok (.pop, 1) := by decide +kernel
theorem dX12_playFlushed_47 : decode cX12_playFlushed 47 = .ok (.return_, 1) := by decide +kernel
theorem dX12_noteFit_0 : decode cX12_noteFit 0 = .ok (.aload_n 0, 1) := by decide +kernel
theorem dX12_noteFit_1 : decode cX12_noteFit 1 = .ok (.aload_n 0, 1) := by decide +kernel
theorem dX12_noteFit_2 : decode cX12_noteFit 2 = .ok (.getfield 557, 3) := by decide +kernel
theorem dX12_noteFit_5 : decode cX12_noteFit 5 = .ok (.iload_n 2, 1) := by decide +kernel
theorem dX12_noteFit_6 : decode cX12_noteFit 6 = .ok (.if_icmp .ne 7, 3) := by decide +kernel
theorem dX12_noteFit_9 : decode cX12_noteFit 9 = .ok (.iload_n 1, 1) := by decide +kernel
theorem dX12_noteFit_10 : decode cX12_noteFit 10 = .ok (.goto 7, 3) := by decide +kernel
theorem dX12_noteFit_13 : decode cX12_noteFit 13 = .ok (.aload_n 0, 1) := by decide +kernel
theorem dX12_noteFit_14 : decode cX12_noteFit 14 = .ok (.getfield 560, 3) := by decide +kernel
theorem dX12_noteFit_17 : decode cX12_noteFit 17 = .ok (.putfield 560, 3) := by decide +kernel
theorem dX12_noteFit_20 : decode cX12_noteFit 20 = .ok (.aload_n 0, 1) := by decide +kernel
theorem dX12_noteFit_21 : decode cX12_noteFit 21 = .ok (.dup, 1) := by decide +kernel
theorem dX12_noteFit_22 : decode cX12_noteFit 22 = .ok (.getfield 557, 3) := by decide +kernel
theorem dX12_noteFit_25 : decode cX12_noteFit 25 = .ok (.iconst 1, 1) := by decide +kernel
theorem dX12_noteFit_26 : decode cX12_noteFit 26 = .ok (.iadd, 1) := by decide +kernel
theorem dX12_noteFit_27 : decode cX12_noteFit 27 = .ok (.putfield 557, 3) := by decide +kernel
theorem dX12_noteFit_30 : decode cX12_noteFit 30 = .ok (.aload_n 0, 1) := by decide +kernel
theorem dX12_noteFit_31 : decode cX12_noteFit 31 = .ok (.aload_n 0, 1) := by decide +kernel
theorem dX12_noteFit_32 : decode cX12_noteFit 32 = .ok (.getfield 563, 3) := by decide +kernel
theorem dX12_noteFit_35 : decode cX12_noteFit 35 = .ok (.iconst (-1), 1) := by decide +kernel
theorem dX12_noteFit_36 : decode cX12_noteFit 36 = .ok (.if_icmp .eq 14, 3) := by decide +kernel
theorem dX12_noteFit_39 : decode cX12_noteFit 39 = .ok (.iload_n 1, 1) := by decide +kernel
theorem dX12_noteFit_40 : decode cX12_noteFit 40 = .ok (.invokestatic 566, 3) := by decide +kernel
theorem dX12_noteFit_43 : decode cX12_noteFit 43 = .ok (.aload_n 0, 1) := by decide +kernel
theorem dX12_noteFit_44 : decode cX12_noteFit 44 = .ok (.getfield 563, 3) := by decide +kernel
theorem dX12_noteFit_47 : decode cX12_noteFit 47 = .ok (.if_icmp .ge 10, 3) := by decide +kernel
theorem dX12_noteFit_50 : decode cX12_noteFit 50 = .ok (.iload_n 1, 1) := by decide +kernel
theorem dX12_noteFit_51 : decode cX12_noteFit 51 = .ok (.invokestatic 566, 3) := by decide +kernel
theorem dX12_noteFit_54 : decode cX12_noteFit 54 = .ok (.goto 7, 3) := by decide +kernel
theorem dX12_noteFit_57 : decode cX12_noteFit 57 = .ok (.aload_n 0, 1) := by decide +kernel
theorem dX12_noteFit_58 : decode cX12_noteFit 58 = .ok (.getfield 563, 3) := by decide +kernel
theorem dX12_noteFit_61 : decode cX12_noteFit 61 = .ok (.putfield 563, 3) := by decide +kernel
theorem dX12_noteFit_64 : decode cX12_noteFit 64 = .ok (.aload_n 0, 1) := by decide +kernel
theorem dX12_noteFit_65 : decode cX12_noteFit 65 = .ok (.dup, 1) := by decide +kernel
theorem dX12_noteFit_66 : decode cX12_noteFit 66 = .ok (.getfield 569, 3) := by decide +kernel
theorem dX12_noteFit_69 : decode cX12_noteFit 69 = .ok (.iload_n 1, 1) := by decide +kernel
theorem dX12_noteFit_70 : decode cX12_noteFit 70 = .ok (.iand, 1) := by decide +kernel
theorem dX12_noteFit_71 : decode cX12_noteFit 71 = .ok (.putfield 569, 3) := by decide +kernel
theorem dX12_noteFit_74 : decode cX12_noteFit 74 = .ok (.aload_n 0, 1) := by decide +kernel
theorem dX12_noteFit_75 : decode cX12_noteFit 75 = .ok (.dup, 1) := by decide +kernel
theorem dX12_noteFit_76 : decode cX12_noteFit 76 = .ok (.getfield 572, 3) := by decide +kernel
theorem dX12_noteFit_79 : decode cX12_noteFit 79 = .ok (.iload_n 1, 1) := by decide +kernel
theorem dX12_noteFit_80 : decode cX12_noteFit 80 = .ok (.ior, 1) := by decide +kernel
theorem dX12_noteFit_81 : decode cX12_noteFit 81 = .ok (.putfield 572, 3) := by decide +kernel
theorem dX12_noteFit_84 : decode cX12_noteFit 84 = .ok (.iconst 0, 1) := by decide +kernel
theorem dX12_noteFit_85 : decode cX12_noteFit 85 = .ok (.istore_n 3, 1) := by decide +kernel
theorem dX12_noteFit_86 : decode cX12_noteFit 86 = .ok (.iload_n 3, 1) := by decide +kernel
theorem dX12_noteFit_87 : decode cX12_noteFit 87 = .ok (.bipush 10, 2) := by decide +kernel
theorem dX12_noteFit_89 : decode cX12_noteFit 89 = .ok (.if_icmp .ge 45, 3) := by decide +kernel
theorem dX12_noteFit_92 : decode cX12_noteFit 92 = .ok (.aload_n 0, 1) := by decide +kernel
theorem dX12_noteFit_93 : decode cX12_noteFit 93 = .ok (.getfield 137, 3) := by decide +kernel
theorem dX12_noteFit_96 : decode cX12_noteFit 96 = .ok (.bipush 101, 2) := by decide +kernel
theorem dX12_noteFit_98 : decode cX12_noteFit 98 = .ok (.iload_n 3, 1) := by decide +kernel
theorem dX12_noteFit_99 : decode cX12_noteFit 99 = .ok (.imul, 1) := by decide +kernel
theorem dX12_noteFit_100 : decode cX12_noteFit 100 = .ok (.aload_n 0, 1) := by decide +kernel
theorem dX12_noteFit_101 : decode cX12_noteFit 101 = .ok (.getfield 336, 3) := by decide +kernel
theorem dX12_noteFit_104 : decode cX12_noteFit 104 = .ok (.iload_n 3, 1) := by decide +kernel
theorem dX12_noteFit_105 : decode cX12_noteFit 105 = .ok (.invokestatic 148, 3) := by decide +kernel
theorem dX12_noteFit_108 : decode cX12_noteFit 108 = .ok (.ifCond .eq 12, 3) := by decide +kernel
theorem dX12_noteFit_111 : decode cX12_noteFit 111 = .ok (.aload_n 0, 1) := by decide +kernel
theorem dX12_noteFit_112 : decode cX12_noteFit 112 = .ok (.getfield 44, 3) := by decide +kernel
theorem dX12_noteFit_115 : decode cX12_noteFit 115 = .ok (.iload_n 3, 1) := by decide +kernel
theorem dX12_noteFit_116 : decode cX12_noteFit 116 = .ok (.iaload, 1) := by decide +kernel
theorem dX12_noteFit_117 : decode cX12_noteFit 117 = .ok (.goto 5, 3) := by decide +kernel
theorem dX12_noteFit_120 : decode cX12_noteFit 120 = .ok (.bipush 100, 2) := by decide +kernel
theorem dX12_noteFit_122 : decode cX12_noteFit 122 = .ok (.iadd, 1) := by decide +kernel
theorem dX12_noteFit_123 : decode cX12_noteFit 123 = .ok (.dup2, 1) := by decide +kernel
theorem dX12_noteFit_124 : decode cX12_noteFit 124 = .ok (.iaload, 1) := by decide +kernel
theorem dX12_noteFit_125 : decode cX12_noteFit 125 = .ok (.iconst 1, 1) := by decide +kernel
theorem dX12_noteFit_126 : decode cX12_noteFit 126 = .ok (.iadd, 1) := by decide +kernel
theorem dX12_noteFit_127 : decode cX12_noteFit 127 = .ok (.iastore, 1) := by decide +kernel
theorem dX12_noteFit_128 : decode cX12_noteFit 128 = .ok (.iinc 3 1, 3) := by decide +kernel
theorem dX12_noteFit_131 : decode cX12_noteFit 131 = .ok (.goto (-45), 3) := by decide +kernel
theorem dX12_noteFit_134 : decode cX12_noteFit 134 = .ok (.return_, 1) := by decide +kernel
theorem dX12_findSets_0 : decode cX12_findSets 0 = .ok (.aload_n 0, 1) := by decide +kernel
theorem dX12_findSets_1 : decode cX12_findSets 1 = .ok (.iconst 0, 1) := by decide +kernel
theorem dX12_findSets_2 : decode cX12_findSets 2 = .ok (.putfield 557, 3) := by decide +kernel
theorem dX12_findSets_5 : decode cX12_findSets 5 = .ok (.aload_n 0, 1) := by decide +kernel
theorem dX12_findSets_6 : decode cX12_findSets 6 = .ok (.bipush (-2), 2) := by decide +kernel
theorem dX12_findSets_8 : decode cX12_findSets 8 = .ok (.putfield 560, 3) := by decide +kernel
theorem dX12_findSets_11 : decode cX12_findSets 11 = .ok (.aload_n 0, 1) := by decide +kernel
theorem dX12_findSets_12 : decode cX12_findSets 12 = .ok (.iconst (-1), 1) := by decide +kernel
theorem dX12_findSets_13 : decode cX12_findSets 13 = .ok (.putfield 563, 3) := by decide +kernel
theorem dX12_findSets_16 : decode cX12_findSets 16 = .ok (.aload_n 0, 1) := by decide +kernel
theorem dX12_findSets_17 : decode cX12_findSets 17 = .ok (.iconst 1, 1) := by decide +kernel
theorem dX12_findSets_18 : decode cX12_findSets 18 = .ok (.aload_n 0, 1) := by decide +kernel
theorem dX12_findSets_19 : decode cX12_findSets 19 = .ok (.getfield 326, 3) := by decide +kernel
theorem dX12_findSets_22 : decode cX12_findSets 22 = .ok (.ishl, 1) := by decide +kernel
theorem dX12_findSets_23 : decode cX12_findSets 23 = .ok (.iconst 1, 1) := by decide +kernel
theorem dX12_findSets_24 : decode cX12_findSets 24 = .ok (.isub, 1) := by decide +kernel
theorem dX12_findSets_25 : decode cX12_findSets 25 = .ok (.putfield 569, 3) := by decide +kernel
theorem dX12_findSets_28 : decode cX12_findSets 28 = .ok (.aload_n 0, 1) := by decide +kernel
theorem dX12_findSets_29 : decode cX12_findSets 29 = .ok (.iconst 0, 1) := by decide +kernel
theorem dX12_findSets_30 : decode cX12_findSets 30 = .ok (.putfield 572, 3) := by decide +kernel
theorem dX12_findSets_33 : decode cX12_findSets 33 = .ok (.iconst 0, 1) := by decide +kernel
theorem dX12_findSets_34 : decode cX12_findSets 34 = .ok (.istore_n 2, 1) := by decide +kernel
theorem dX12_findSets_35 : decode cX12_findSets 35 = .ok (.iload_n 2, 1) := by decide +kernel
theorem dX12_findSets_36 : decode cX12_findSets 36 = .ok (.sipush 1010, 3) := by decide +kernel
theorem dX12_findSets_39 : decode cX12_findSets 39 = .ok (.if_icmp .ge 16, 3) := by decide +kernel
theorem dX12_findSets_42 : decode cX12_findSets 42 = .ok (.aload_n 0, 1) := by decide +kernel
theorem dX12_findSets_43 : decode cX12_findSets 43 = .ok (.getfield 137, 3) := by decide +kernel
theorem dX12_findSets_46 : decode cX12_findSets 46 = .ok (.iload_n 2, 1) := by decide +kernel
theorem dX12_findSets_47 : decode cX12_findSets 47 = .ok (.iconst 0, 1) := by decide +kernel
theorem dX12_findSets_48 : decode cX12_findSets 48 = .ok (.iastore, 1) := by decide +kernel
theorem dX12_findSets_49 : decode cX12_findSets 49 = .ok (.iinc 2 1, 3) := by decide +kernel
theorem dX12_findSets_52 : decode cX12_findSets 52 = .ok (.goto (-17), 3) := by decide +kernel
theorem dX12_findSets_55 : decode cX12_findSets 55 = .ok (.iconst 0, 1) := by decide +kernel
theorem dX12_findSets_56 : decode cX12_findSets 56 = .ok (.istore_n 2, 1) := by decide +kernel
theorem dX12_findSets_57 : decode cX12_findSets 57 = .ok (.iload_n 2, 1) := by decide +kernel
theorem dX12_findSets_58 : decode cX12_findSets 58 = .ok (.iconst 1, 1) := by decide +kernel
theorem dX12_findSets_59 : decode cX12_findSets 59 = .ok (.aload_n 0, 1) := by decide +kernel
theorem dX12_findSets_60 : decode cX12_findSets 60 = .ok (.getfield 326, 3) := by decide +kernel
theorem dX12_findSets_63 : decode cX12_findSets 63 = .ok (.ishl, 1) := by decide +kernel
theorem dX12_findSets_64 : decode cX12_findSets 64 = .ok (.if_icmp .ge 27, 3) := by decide +kernel
theorem dX12_findSets_67 : decode cX12_findSets 67 = .ok (.aload_n 0, 1) := by decide +kernel
theorem dX12_findSets_68 : decode cX12_findSets 68 = .ok (.iload_n 2, 1) := by decide +kernel
theorem dX12_findSets_69 : decode cX12_findSets 69 = .ok (.invokevirtual 575, 3) := by decide +kernel
theorem dX12_findSets_72 : decode cX12_findSets 72 = .ok (.aload_n 0, 1) := by decide +kernel
theorem dX12_findSets_73 : decode cX12_findSets 73 = .ok (.invokevirtual 578, 3) := by decide +kernel
theorem dX12_findSets_76 : decode cX12_findSets 76 = .ok (.ifCond .eq 9, 3) := by decide +kernel
theorem dX12_findSets_79 : decode cX12_findSets 79 = .ok (.aload_n 0, 1) := by decide +kernel
theorem dX12_findSets_80 : decode cX12_findSets 80 = .ok (.iload_n 2, 1) := by decide +kernel
theorem dX12_findSets_81 : decode cX12_findSets 81 = .ok (.iload_n 1, 1) := by decide +kernel
theorem dX12_findSets_82 : decode cX12_findSets 82 = .ok (.invokevirtual 581, 3) := by decide +kernel
theorem dX12_findSets_85 : decode cX12_findSets 85 = .ok (.iinc 2 1, 3) := by decide +kernel
theorem dX12_findSets_88 : decode cX12_findSets 88 = .ok (.goto (-31), 3) := by decide +kernel
theorem dX12_findSets_91 : decode cX12_findSets 91 = .ok (.return_, 1) := by decide +kernel
theorem dX12_askWhat_0 : decode cX12_askWhat 0 = .ok (.iconst (-1), 1) := by decide +kernel
theorem dX12_askWhat_1 : decode cX12_askWhat 1 = .ok (.istore_n 1, 1) := by decide +kernel
theorem dX12_askWhat_2 : decode cX12_askWhat 2 = .ok (.ldc_w 584, 3) := by decide +kernel
theorem dX12_askWhat_5 : decode cX12_askWhat 5 = .ok (.istore_n 2, 1) := by decide +kernel
theorem dX12_askWhat_6 : decode cX12_askWhat 6 = .ok (.iconst 0, 1) := by decide +kernel
theorem dX12_askWhat_7 : decode cX12_askWhat 7 = .ok (.istore_n 3, 1) := by decide +kernel
theorem dX12_askWhat_8 : decode cX12_askWhat 8 = .ok (.iload_n 3, 1) := by decide +kernel
theorem dX12_askWhat_9 : decode cX12_askWhat 9 = .ok (.bipush 10, 2) := by decide +kernel
theorem dX12_askWhat_11 : decode cX12_askWhat 11 = .ok (.if_icmp .ge 73, 3) := by decide +kernel
theorem dX12_askWhat_14 : decode cX12_askWhat 14 = .ok (.aload_n 0, 1) := by decide +kernel
theorem dX12_askWhat_15 : decode cX12_askWhat 15 = .ok (.getfield 557, 3) := by decide +kernel
theorem dX12_askWhat_18 : decode cX12_askWhat 18 = .ok (.ifCond .le 66, 3) := by decide +kernel
theorem dX12_askWhat_21 : decode cX12_askWhat 21 = .ok (.iconst 0, 1) := by decide +kernel
theorem dX12_askWhat_22 : decode cX12_askWhat 22 = .ok (.istore 4, 2) := by decide +kernel
theorem dX12_askWhat_24 : decode cX12_askWhat 24 = .ok (.iconst 0, 1) := by decide +kernel
theorem dX12_askWhat_25 : decode cX12_askWhat 25 = .ok (.istore 5, 2) := by decide +kernel
theorem dX12_askWhat_27 : decode cX12_askWhat 27 = .ok (.iload 5, 2) := by decide +kernel
theorem dX12_askWhat_29 : decode cX12_askWhat 29 = .ok (.bipush 101, 2) := by decide +kernel
theorem dX12_askWhat_31 : decode cX12_askWhat 31 = .ok (.if_icmp .ge 28, 3) := by decide +kernel
theorem dX12_askWhat_34 : decode cX12_askWhat 34 = .ok (.iload 4, 2) := by decide +kernel
theorem dX12_askWhat_36 : decode cX12_askWhat 36 = .ok (.aload_n 0, 1) := by decide +kernel
theorem dX12_askWhat_37 : decode cX12_askWhat 37 = .ok (.getfield 137, 3) := by decide +kernel
theorem dX12_askWhat_40 : decode cX12_askWhat 40 = .ok (.bipush 101, 2) := by decide +kernel
theorem dX12_askWhat_42 : decode cX12_askWhat 42 = .ok (.iload_n 3, 1) := by decide +kernel
theorem dX12_askWhat_43 : decode cX12_askWhat 43 = .ok (.imul, 1) := by decide +kernel
theorem dX12_askWhat_44 : decode cX12_askWhat 44 = .ok (.iload 5, 2) := by decide +kernel
theorem dX12_askWhat_46 : decode cX12_askWhat 46 = .ok (.iadd, 1) := by decide +kernel
theorem dX12_askWhat_47 : decode cX12_askWhat 47 = .ok (.iaload, 1) := by decide +kernel
theorem dX12_askWhat_48 : decode cX12_askWhat 48 = .ok (.invokestatic 415, 3) := by decide +kernel
theorem dX12_askWhat_51 : decode cX12_askWhat 51 = .ok (.istore 4, 2) := by decide +kernel
theorem dX12_askWhat_53 : decode cX12_askWhat 53 = .ok (.iinc 5 1, 3) := by decide +kernel
theorem dX12_askWhat_56 : decode cX12_askWhat 56 = .ok (.goto (-29), 3) := by decide +kernel
theorem dX12_askWhat_59 : decode cX12_askWhat 59 = .ok (.iload 4, 2) := by decide +kernel
theorem dX12_askWhat_61 : decode cX12_askWhat 61 = .ok (.iload_n 2, 1) := by decide +kernel
theorem dX12_askWhat_62 : decode cX12_askWhat 62 = .ok (.if_icmp .ge 7, 3) := by decide +kernel
theorem dX12_askWhat_65 : decode cX12_askWhat 65 = .ok (.iload_n 3, 1) := by decide +kernel
theorem dX12_askWhat_66 : decode cX12_askWhat 66 = .ok (.goto 4, 3) := by decide +kernel
theorem dX12_askWhat_69 : decode cX12_askWhat 69 = .ok (.iload_n 1, 1) := by decide +kernel
theorem dX12_askWhat_70 : decode cX12_askWhat 70 = .ok (.istore_n 1, 1) := by decide +kernel
theorem dX12_askWhat_71 : decode cX12_askWhat 71 = .ok (.iload_n 2, 1) := by decide +kernel
theorem dX12_askWhat_72 : decode cX12_askWhat 72 = .ok (.iload 4, 2) := by decide +kernel
theorem dX12_askWhat_74 : decode cX12_askWhat 74 = .ok (.invokestatic 239, 3) := by decide +kernel
theorem dX12_askWhat_77 : decode cX12_askWhat 77 = .ok (.istore_n 2, 1) := by decide +kernel
theorem dX12_askWhat_78 : decode cX12_askWhat 78 = .ok (.iinc 3 1, 3) := by decide +kernel
theorem dX12_askWhat_81 : decode cX12_askWhat 81 = .ok (.goto (-73), 3) := by decide +kernel
theorem dX12_askWhat_84 : decode cX12_askWhat 84 = .ok (.iload_n 1, 1) := by decide +kernel
theorem dX12_askWhat_85 : decode cX12_askWhat 85 = .ok (.ireturn, 1) := by decide +kernel
theorem dX12_sure_0 : decode cX12_sure 0 = .ok (.aload_n 0, 1) := by decide +kernel
theorem dX12_sure_1 : decode cX12_sure 1 = .ok (.getfield 557, 3) := by decide +kernel
theorem dX12_sure_4 : decode cX12_sure 4 = .ok (.ifCond .eq 11, 3) := by decide +kernel
theorem dX12_sure_7 : decode cX12_sure 7 = .ok (.aload_n 0, 1) := by decide +kernel
theorem dX12_sure_8 : decode cX12_sure 8 = .ok (.iload_n 1, 1) := by decide +kernel
theorem dX12_sure_9 : decode cX12_sure 9 = .ok (.invokevirtual 457, 3) := by decide +kernel
theorem dX12_sure_12 : decode cX12_sure 12 = .ok (.ifCond .ne 7, 3) := by decide +kernel
theorem dX12_sure_15 : decode cX12_sure 15 = .ok (.iconst (-1), 1) := by decide +kernel
theorem dX12_sure_16 : decode cX12_sure 16 = .ok (.goto 34, 3) := by decide +kernel
theorem dX12_sure_19 : decode cX12_sure 19 = .ok (.aload_n 0, 1) := by decide +kernel
theorem dX12_sure_20 : decode cX12_sure 20 = .ok (.getfield 569, 3) := by decide +kernel
theorem dX12_sure_23 : decode cX12_sure 23 = .ok (.iload_n 1, 1) := by decide +kernel
theorem dX12_sure_24 : decode cX12_sure 24 = .ok (.invokestatic 148, 3) := by decide +kernel
theorem dX12_sure_27 : decode cX12_sure 27 = .ok (.ifCond .eq 7, 3) := by decide +kernel
theorem dX12_sure_30 : decode cX12_sure 30 = .ok (.iconst 1, 1) := by decide +kernel
theorem dX12_sure_31 : decode cX12_sure 31 = .ok (.goto 19, 3) := by decide +kernel
theorem dX12_sure_34 : decode cX12_sure 34 = .ok (.aload_n 0, 1) := by decide +kernel
theorem dX12_sure_35 : decode cX12_sure 35 = .ok (.getfield 572, 3) := by decide +kernel
theorem dX12_sure_38 : decode cX12_sure 38 = .ok (.iload_n 1, 1) := by decide +kernel
theorem dX12_sure_39 : decode cX12_sure 39 = .ok (.invokestatic 148, 3) := by decide +kernel
theorem dX12_sure_42 : decode cX12_sure 42 = .ok (.ifCond .eq 7, 3) := by decide +kernel
theorem dX12_sure_45 : decode cX12_sure 45 = .ok (.iconst (-1), 1) := by decide +kernel
theorem dX12_sure_46 : decode cX12_sure 46 = .ok (.goto 4, 3) := by decide +kernel
theorem dX12_sure_49 : decode cX12_sure 49 = .ok (.iconst 0, 1) := by decide +kernel
theorem dX12_sure_50 : decode cX12_sure 50 = .ok (.ireturn, 1) := by decide +kernel
theorem dX12_fits_0 : decode cX12_fits 0 = .ok (.aload_n 0, 1) := by decide +kernel
theorem dX12_fits_1 : decode cX12_fits 1 = .ok (.iconst 0, 1) := by decide +kernel
theorem dX12_fits_2 : decode cX12_fits 2 = .ok (.putfield 144, 3) := by decide +kernel
theorem dX12_fits_5 : decode cX12_fits 5 = .ok (.aload_n 0, 1) := by decide +kernel
theorem dX12_fits_6 : decode cX12_fits 6 = .ok (.iload 4, 2) := by decide +kernel
theorem dX12_fits_8 : decode cX12_fits 8 = .ok (.invokevirtual 545, 3) := by decide +kernel
theorem dX12_fits_11 : decode cX12_fits 11 = .ok (.ifCond .eq 13, 3) := by decide +kernel
theorem dX12_fits_14 : decode cX12_fits 14 = .ok (.aload_n 0, 1) := by decide +kernel
theorem dX12_fits_15 : decode cX12_fits 15 = .ok (.iload_n 1, 1) := by decide +kernel
theorem dX12_fits_16 : decode cX12_fits 16 = .ok (.iload_n 2, 1) := by decide +kernel
theorem dX12_fits_17 : decode cX12_fits 17 = .ok (.iload_n 3, 1) := by decide +kernel
theorem dX12_fits_18 : decode cX12_fits 18 = .ok (.invokevirtual 490, 3) := by decide +kernel
theorem dX12_fits_21 : decode cX12_fits 21 = .ok (.ifCond .ne 6, 3) := by decide +kernel
theorem dX12_fits_24 : decode cX12_fits 24 = .ok (.bipush (-2), 2) := by decide +kernel
theorem dX12_fits_26 : decode cX12_fits 26 = .ok (.ireturn, 1) := by decide +kernel
theorem dX12_fits_27 : decode cX12_fits 27 = .ok (.aload_n 0, 1) := by decide +kernel
theorem dX12_fits_28 : decode cX12_fits 28 = .ok (.iload 5, 2) := by decide +kernel
theorem dX12_fits_30 : decode cX12_fits 30 = .ok (.bipush 10, 2) := by decide +kernel
theorem dX12_fits_32 : decode cX12_fits 32 = .ok (.isub, 1) := by decide +kernel
theorem dX12_fits_33 : decode cX12_fits 33 = .ok (.invokevirtual 585, 3) := by decide +kernel
theorem dX12_fits_36 : decode cX12_fits 36 = .ok (.iload 5, 2) := by decide +kernel
theorem dX12_fits_38 : decode cX12_fits 38 = .ok (.bipush 10, 2) := by decide +kernel
theorem dX12_fits_40 : decode cX12_fits 40 = .ok (.if_icmp .lt 8, 3) := by decide +kernel
theorem dX12_fits_43 : decode cX12_fits 43 = .ok (.aload_n 0, 1) := by decide +kernel
theorem dX12_fits_44 : decode cX12_fits 44 = .ok (.getfield 560, 3) := by decide +kernel
theorem dX12_fits_47 : decode cX12_fits 47 = .ok (.ireturn, 1) := by decide +kernel
theorem dX12_fits_48 : decode cX12_fits 48 = .ok (.iload 5, 2) := by decide +kernel
theorem dX12_fits_50 : decode cX12_fits 50 = .ok (.iconst 3, 1) := by decide +kernel
theorem dX12_fits_51 : decode cX12_fits 51 = .ok (.bipush 6, 2) := by decide +kernel
theorem dX12_fits_53 : decode cX12_fits 53 = .ok (.invokestatic 156, 3) := by decide +kernel
theorem dX12_fits_56 : decode cX12_fits 56 = .ok (.ifCond .eq 12, 3) := by decide +kernel
theorem dX12_fits_59 : decode cX12_fits 59 = .ok (.aload_n 0, 1) := by decide +kernel
theorem dX12_fits_60 : decode cX12_fits 60 = .ok (.iload 5, 2) := by decide +kernel
theorem dX12_fits_62 : decode cX12_fits 62 = .ok (.iconst 3, 1) := by decide +kernel
theorem dX12_fits_63 : decode cX12_fits 63 = .ok (.isub, 1) := by decide +kernel
theorem dX12_fits_64 : decode cX12_fits 64 = .ok (.invokevirtual 588, 3) := by decide +kernel
theorem dX12_fits_67 : decode cX12_fits 67 = .ok (.ireturn, 1) := by decide +kernel
theorem dX12_fits_68 : decode cX12_fits 68 = .ok (.iload 5, 2) := by decide +kernel
theorem dX12_fits_70 : decode cX12_fits 70 = .ok (.ifCond .ne 10, 3) := by decide +kernel
theorem dX12_fits_73 : decode cX12_fits 73 = .ok (.aload_n 0, 1) := by decide +kernel
theorem dX12_fits_74 : decode cX12_fits 74 = .ok (.getfield 557, 3) := by decide +kernel
theorem dX12_fits_77 : decode cX12_fits 77 = .ok (.goto 31, 3) := by decide +kernel
theorem dX12_fits_80 : decode cX12_fits 80 = .ok (.iload 5, 2) := by decide +kernel
theorem dX12_fits_82 : decode cX12_fits 82 = .ok (.iconst 1, 1) := by decide +kernel
theorem dX12_fits_83 : decode cX12_fits 83 = .ok (.if_icmp .ne 10, 3) := by decide +kernel
theorem dX12_fits_86 : decode cX12_fits 86 = .ok (.aload_n 0, 1) := by decide +kernel
theorem dX12_fits_87 : decode cX12_fits 87 = .ok (.invokevirtual 591, 3) := by decide +kernel
theorem dX12_fits_90 : decode cX12_fits 90 = .ok (.goto 18, 3) := by decide +kernel
theorem dX12_fits_93 : decode cX12_fits 93 = .ok (.iload 5, 2) := by decide +kernel
theorem dX12_fits_95 : decode cX12_fits 95 = .ok (.iconst 2, 1) := by decide +kernel
theorem dX12_fits_96 : decode cX12_fits 96 = .ok (.if_icmp .ne 10, 3) := by decide +kernel
theorem dX12_fits_99 : decode cX12_fits 99 = .ok (.aload_n 0, 1) := by decide +kernel
theorem dX12_fits_100 : decode cX12_fits 100 = .ok (.getfield 563, 3) := by decide +kernel
theorem dX12_fits_103 : decode cX12_fits 103 = .ok (.goto 5, 3) := by decide +kernel
theorem dX12_fits_106 : decode cX12_fits 106 = .ok (.bipush (-2), 2) := by decide +kernel
theorem dX12_fits_108 : decode cX12_fits 108 = .ok (.ireturn, 1) := by decide +kernel
theorem dX12_draw_0 : decode cX12_draw 0 = .ok (.aload_n 0, 1) := by decide +kernel
theorem dX12_draw_1 : decode cX12_draw 1 = .ok (.aload_n 0, 1) := by decide +kernel
theorem dX12_draw_2 : decode cX12_draw 2 = .ok (.getfield 594, 3) := by decide +kernel
theorem dX12_draw_5 : decode cX12_draw 5 = .ok (.ldc_w 597, 3) := by decide +kernel
theorem dX12_draw_8 : decode cX12_draw 8 = .ok (.imul, 1) := by decide +kernel
theorem dX12_draw_9 : decode cX12_draw 9 = .ok (.sipush 12345, 3) := by decide +kernel
theorem dX12_draw_12 : decode cX12_draw 12 = .ok (.iadd, 1) := by decide +kernel
theorem dX12_draw_13 : decode cX12_draw 13 = .ok (.putfield 594, 3) := by decide +kernel
theorem dX12_draw_16 : decode cX12_draw 16 = .ok (.aload_n 0, 1) := by decide +kernel
theorem dX12_draw_17 : decode cX12_draw 17 = .ok (.getfield 594, 3) := by decide +kernel
theorem dX12_draw_20 : decode cX12_draw 20 = .ok (.bipush 16, 2) := by decide +kernel
theorem dX12_draw_22 : decode cX12_draw 22 = .ok (.iushr, 1) := by decide +kernel
theorem dX12_draw_23 : decode cX12_draw 23 = .ok (.iload_n 1, 1) := by decide +kernel
theorem dX12_draw_24 : decode cX12_draw 24 = .ok (.irem, 1) := by decide +kernel
theorem dX12_draw_25 : decode cX12_draw 25 = .ok (.ireturn, 1) := by decide +kernel
theorem dX12_drawDeed_0 : decode cX12_drawDeed 0 = .ok (.aload_n 0, 1) := by decide +kernel
theorem dX12_drawDeed_1 : decode cX12_drawDeed 1 = .ok (.bipush 12, 2) := by decide +kernel
theorem dX12_drawDeed_3 : decode cX12_drawDeed 3 = .ok (.invokevirtual 598, 3) := by decide +kernel
theorem dX12_drawDeed_6 : decode cX12_drawDeed 6 = .ok (.istore_n 1, 1) := by decide +kernel
theorem dX12_drawDeed_7 : decode cX12_drawDeed 7 = .ok (.iload_n 1, 1) := by decide +kernel
theorem dX12_drawDeed_8 : decode cX12_drawDeed 8 = .ok (.iconst 3, 1) := by decide +kernel
theorem dX12_drawDeed_9 : decode cX12_drawDeed 9 = .ok (.if_icmp .ge 39, 3) := by decide +kernel
theorem dX12_drawDeed_12 : decode cX12_drawDeed 12 = .ok (.aload_n 0, 1) := by decide +kernel
theorem dX12_drawDeed_13 : decode cX12_drawDeed 13 = .ok (.getfield 323, 3) := by decide +kernel
theorem dX12_drawDeed_16 : decode cX12_drawDeed 16 = .ok (.ifCond .le 112, 3) := by decide +kernel
theorem dX12_drawDeed_19 : decode cX12_drawDeed 19 = .ok (.aload_n 0, 1) := by decide +kernel
theorem dX12_drawDeed_20 : decode cX12_drawDeed 20 = .ok (.aload_n 0, 1) := by decide +kernel
theorem dX12_drawDeed_21 : decode cX12_drawDeed 21 = .ok (.getfield 326, 3) := by decide +kernel
theorem dX12_drawDeed_24 : decode cX12_drawDeed 24 = .ok (.invokevirtual 598, 3) := by decide +kernel
theorem dX12_drawDeed_27 : decode cX12_drawDeed 27 = .ok (.istore_n 2, 1) := by decide +kernel
theorem dX12_drawDeed_28 : decode cX12_drawDeed 28 = .ok (.aload_n 0, 1) := by decide +kernel
theorem dX12_drawDeed_29 : decode cX12_drawDeed 29 = .ok (.bipush 6, 2) := by decide +kernel
theorem dX12_drawDeed_31 : decode cX12_drawDeed 31 = .ok (.iload_n 2, 1) := by decide +kernel
theorem dX12_drawDeed_32 : decode cX12_drawDeed 32 = .ok (.aload_n 0, 1) := by decide +kernel
theorem dX12_drawDeed_33 : decode cX12_drawDeed 33 = .ok (.aload_n 0, 1) := by decide +kernel
theorem dX12_drawDeed_34 : decode cX12_drawDeed 34 = .ok (.getfield 323, 3) := by decide +kernel
theorem dX12_drawDeed_37 : decode cX12_drawDeed 37 = .ok (.invokevirtual 598, 3) := by decide +kernel
theorem dX12_drawDeed_40 : decode cX12_drawDeed 40 = .ok (.iconst (-1), 1) := by decide +kernel
theorem dX12_drawDeed_41 : decode cX12_drawDeed 41 = .ok (.invokevirtual 483, 3) := by decide +kernel
theorem dX12_drawDeed_44 : decode cX12_drawDeed 44 = .ok (.pop, 1) := by decide +kernel
theorem dX12_drawDeed_45 : decode cX12_drawDeed 45 = .ok (.goto 83, 3) := by decide +kernel
theorem dX12_drawDeed_48 : decode cX12_drawDeed 48 = .ok (.iload_n 1, 1) := by decide +kernel
theorem dX12_drawDeed_49 : decode cX12_drawDeed 49 = .ok (.bipush 10, 2) := by decide +kernel
theorem dX12_drawDeed_51 : decode cX12_drawDeed 51 = .ok (.if_icmp .ge 42, 3) := by decide +kernel
theorem dX12_drawDeed_54 : decode cX12_drawDeed 54 = .ok (.aload_n 0, 1) := by decide +kernel
theorem dX12_drawDeed_55 : decode cX12_drawDeed 55 = .ok (.iload_n 1, 1) := by decide +kernel
theorem dX12_drawDeed_56 : decode cX12_drawDeed 56 = .ok (.bipush 7, 2) := by decide +kernel
theorem dX12_drawDeed_58 : decode cX12_drawDeed 58 = .ok (.if_icmp .ge 7, 3) := by decide +kernel
theorem dX12_drawDeed_61 : decode cX12_drawDeed 61 = .ok (.iconst 2, 1) := by decide +kernel
theorem dX12_drawDeed_62 : decode cX12_drawDeed 62 = .ok (.goto 14, 3) := by decide +kernel
theorem dX12_drawDeed_65 : decode cX12_drawDeed 65 = .ok (.iload_n 1, 1) := by decide +kernel
theorem dX12_drawDeed_66 : decode cX12_drawDeed 66 = .ok (.bipush 9, 2) := by decide +kernel
theorem dX12_drawDeed_68 : decode cX12_drawDeed 68 = .ok (.if_icmp .ge 7, 3) := by decide +kernel
theorem dX12_drawDeed_71 : decode cX12_drawDeed 71 = .ok (.iconst 3, 1) := by decide +kernel
theorem dX12_drawDeed_72 : decode cX12_drawDeed 72 = .ok (.goto 4, 3) := by decide +kernel
theorem dX12_drawDeed_75 : decode cX12_drawDeed 75 = .ok (.iconst 5, 1) := by decide +kernel
theorem dX12_drawDeed_76 : decode cX12_drawDeed 76 = .ok (.aload_n 0, 1) := by decide +kernel
theorem dX12_drawDeed_77 : decode cX12_drawDeed 77 = .ok (.aload_n 0, 1) := by decide +kernel
theorem dX12_drawDeed_78 : decode cX12_drawDeed 78 = .ok (.getfield 326, 3) := by decide +kernel
theorem dX12_drawDeed_81 : decode cX12_drawDeed 81 = .ok (.invokevirtual 598, 3) := by decide +kernel
theorem dX12_drawDeed_84 : decode cX12_drawDeed 84 = .ok (.iconst (-1), 1) := by decide +kernel
theorem dX12_drawDeed_85 : decode cX12_drawDeed 85 = .ok (.iconst (-1), 1) := by decide +kernel
theorem dX12_drawDeed_86 : decode cX12_drawDeed 86 = .ok (.invokevirtual 483, 3) := by decide +kernel
theorem dX12_drawDeed_89 : decode cX12_drawDeed 89 = .ok (.pop, 1) := by decide +kernel
theorem dX12_drawDeed_90 : decode cX12_drawDeed 90 = .ok (.goto 38, 3) := by decide +kernel
theorem dX12_drawDeed_93 : decode cX12_drawDeed 93 = .ok (.iload_n 1, 1) := by decide +kernel
theorem dX12_drawDeed_94 : decode cX12_drawDeed 94 = .ok (.bipush 10, 2) := by decide +kernel
theorem dX12_drawDeed_96 : decode cX12_drawDeed 96 = .ok (.if_icmp .ne 15, 3) := by decide +kernel
theorem dX12_drawDeed_99 : decode cX12_drawDeed 99 = .ok (.aload_n 0, 1) := by decide +kernel
theorem dX12_drawDeed_100 : decode cX12_drawDeed 100 = .ok (.iconst 0, 1) := by decide +kernel
theorem dX12_drawDeed_101 : decode cX12_drawDeed 101 = .ok (.iconst (-1), 1) := by decide +kernel
theorem dX12_drawDeed_102 : decode cX12_drawDeed 102 = .ok (.iconst (-1), 1) := by decide +kernel
theorem dX12_drawDeed_103 : decode cX12_drawDeed 103 = .ok (.iconst (-1), 1) := by decide +kernel
theorem dX12_drawDeed_104 : decode cX12_drawDeed 104 = .ok (.invokevirtual 483, 3) := by decide +kernel
theorem dX12_drawDeed_107 : decode cX12_drawDeed 107 = .ok (.pop, 1) := by decide +kernel
theorem dX12_drawDeed_108 : decode cX12_drawDeed 108 = .ok (.goto 20, 3) := by decide +kernel
theorem dX12_drawDeed_111 : decode cX12_drawDeed 111 = .ok (.aload_n 0, 1) := by decide +kernel
theorem dX12_drawDeed_112 : decode cX12_drawDeed 112 = .ok (.iconst 4, 1) := by decide +kernel
theorem dX12_drawDeed_113 : decode cX12_drawDeed 113 = .ok (.invokevirtual 598, 3) := by decide +kernel
theorem dX12_drawDeed_116 : decode cX12_drawDeed 116 = .ok (.ifCond .ne 12, 3) := by decide +kernel
theorem dX12_drawDeed_119 : decode cX12_drawDeed 119 = .ok (.aload_n 0, 1) := by decide +kernel
theorem dX12_drawDeed_120 : decode cX12_drawDeed 120 = .ok (.iconst 1, 1) := by decide +kernel
theorem dX12_drawDeed_121 : decode cX12_drawDeed 121 = .ok (.iconst (-1), 1) := by decide +kernel
theorem dX12_drawDeed_122 : decode cX12_drawDeed 122 = .ok (.iconst (-1), 1) := by decide +kernel
theorem dX12_drawDeed_123 : decode cX12_drawDeed 123 = .ok (.iconst (-1), 1) := by decide +kernel
theorem dX12_drawDeed_124 : decode cX12_drawDeed 124 = .ok (.invokevirtual 483, 3) := by decide +kernel
theorem dX12_drawDeed_127 : decode cX12_drawDeed 127 = .ok (.pop, 1) := by decide +kernel
theorem dX12_drawDeed_128 : decode cX12_drawDeed 128 = .ok (.return_, 1) := by decide +kernel
theorem dX12_drawn_0 : decode cX12_drawn 0 = .ok (.aload_n 0, 1) := by decide +kernel
theorem dX12_drawn_1 : decode cX12_drawn 1 = .ok (.iconst 0, 1) := by decide +kernel
theorem dX12_drawn_2 : decode cX12_drawn 2 = .ok (.putfield 144, 3) := by decide +kernel
theorem dX12_drawn_5 : decode cX12_drawn 5 = .ok (.iload 4, 2) := by decide +kernel
theorem dX12_drawn_7 : decode cX12_drawn 7 = .ok (.iconst 0, 1) := by decide +kernel
theorem dX12_drawn_8 : decode cX12_drawn 8 = .ok (.bipush 60, 2) := by decide +kernel
theorem dX12_drawn_10 : decode cX12_drawn 10 = .ok (.invokestatic 156, 3) := by decide +kernel
theorem dX12_drawn_13 : decode cX12_drawn 13 = .ok (.ifCond .eq 30, 3) := by decide +kernel
theorem dX12_drawn_16 : decode cX12_drawn 16 = .ok (.iload 5, 2) := by decide +kernel
theorem dX12_drawn_18 : decode cX12_drawn 18 = .ok (.iconst 5, 1) := by decide +kernel
theorem dX12_drawn_19 : decode cX12_drawn 19 = .ok (.if_icmp .eq 24, 3) := by decide +kernel
theorem dX12_drawn_22 : decode cX12_drawn 22 = .ok (.iload 5, 2) := by decide +kernel
theorem dX12_drawn_24 : decode cX12_drawn 24 = .ok (.bipush 30, 2) := by decide +kernel
theorem dX12_drawn_26 : decode cX12_drawn 26 = .ok (.bipush 39, 2) := by decide +kernel
theorem dX12_drawn_28 : decode cX12_drawn 28 = .ok (.invokestatic 156, 3) := by decide +kernel
theorem dX12_drawn_31 : decode cX12_drawn 31 = .ok (.ifCond .ne 12, 3) := by decide +kernel
theorem dX12_drawn_34 : decode cX12_drawn 34 = .ok (.aload_n 0, 1) := by decide +kernel
theorem dX12_drawn_35 : decode cX12_drawn 35 = .ok (.iload_n 1, 1) := by decide +kernel
theorem dX12_drawn_36 : decode cX12_drawn 36 = .ok (.iload_n 2, 1) := by decide +kernel
theorem dX12_drawn_37 : decode cX12_drawn 37 = .ok (.invokevirtual 487, 3) := by decide +kernel
theorem dX12_drawn_40 : decode cX12_drawn 40 = .ok (.ifCond .ne 6, 3) := by decide +kernel
theorem dX12_drawn_43 : decode cX12_drawn 43 = .ok (.bipush (-2), 2) := by decide +kernel
theorem dX12_drawn_45 : decode cX12_drawn 45 = .ok (.ireturn, 1) := by decide +kernel
theorem dX12_drawn_46 : decode cX12_drawn 46 = .ok (.aload_n 0, 1) := by decide +kernel
theorem dX12_drawn_47 : decode cX12_drawn 47 = .ok (.iload_n 3, 1) := by decide +kernel
theorem dX12_drawn_48 : decode cX12_drawn 48 = .ok (.putfield 594, 3) := by decide +kernel
theorem dX12_drawn_51 : decode cX12_drawn 51 = .ok (.iconst 0, 1) := by decide +kernel
theorem dX12_drawn_52 : decode cX12_drawn 52 = .ok (.istore 6, 2) := by decide +kernel
theorem dX12_drawn_54 : decode cX12_drawn 54 = .ok (.iload 6, 2) := by decide +kernel
theorem dX12_drawn_56 : decode cX12_drawn 56 = .ok (.iload 4, 2) := by decide +kernel
theorem dX12_drawn_58 : decode cX12_drawn 58 = .ok (.if_icmp .ge 13, 3) := by decide +kernel
theorem dX12_drawn_61 : decode cX12_drawn 61 = .ok (.aload_n 0, 1) := by decide +kernel
theorem dX12_drawn_62 : decode cX12_drawn 62 = .ok (.invokevirtual 601, 3) := by decide +kernel
theorem dX12_drawn_65 : decode cX12_drawn 65 = .ok (.iinc 6 1, 3) := by decide +kernel
theorem dX12_drawn_68 : decode cX12_drawn 68 = .ok (.goto (-14), 3) := by decide +kernel
theorem dX12_drawn_71 : decode cX12_drawn 71 = .ok (.aload_n 0, 1) := by decide +kernel
theorem dX12_drawn_72 : decode cX12_drawn 72 = .ok (.iload 5, 2) := by decide +kernel
theorem dX12_drawn_74 : decode cX12_drawn 74 = .ok (.invokevirtual 506, 3) := by decide +kernel
theorem dX12_drawn_77 : decode cX12_drawn 77 = .ok (.ireturn, 1) := by decide +kernel
theorem dX12_keysOf_0 : decode cX12_keysOf 0 = .ok (.iconst 0, 1) := by decide +kernel
theorem dX12_keysOf_1 : decode cX12_keysOf 1 = .ok (.istore_n 3, 1) := by decide +kernel
theorem dX12_keysOf_2 : decode cX12_keysOf 2 = .ok (.iconst 0, 1) := by decide +kernel
theorem dX12_keysOf_3 : decode cX12_keysOf 3 = .ok (.istore 4, 2) := by decide +kernel
theorem dX12_keysOf_5 : decode cX12_keysOf 5 = .ok (.iload 4, 2) := by decide +kernel
theorem dX12_keysOf_7 : decode cX12_keysOf 7 = .ok (.aload_n 0, 1) := by decide +kernel
theorem dX12_keysOf_8 : decode cX12_keysOf 8 = .ok (.iload_n 1, 1) := by decide +kernel
theorem dX12_keysOf_9 : decode cX12_keysOf 9 = .ok (.invokevirtual 381, 3) := by decide +kernel
theorem dX12_keysOf_12 : decode cX12_keysOf 12 = .ok (.if_icmp .ge 139, 3) := by decide +kernel
theorem dX12_keysOf_15 : decode cX12_keysOf 15 = .ok (.aload_n 0, 1) := by decide +kernel
theorem dX12_keysOf_16 : decode cX12_keysOf 16 = .ok (.iload_n 1, 1) := by decide +kernel
theorem dX12_keysOf_17 : decode cX12_keysOf 17 = .ok (.iconst 1, 1) := by decide +kernel
theorem dX12_keysOf_18 : decode cX12_keysOf 18 = .ok (.iconst 3, 1) := by decide +kernel
theorem dX12_keysOf_19 : decode cX12_keysOf 19 = .ok (.iload 4, 2) := by decide +kernel
theorem dX12_keysOf_21 : decode cX12_keysOf 21 = .ok (.imul, 1) := by decide +kernel
theorem dX12_keysOf_22 : decode cX12_keysOf 22 = .ok (.iadd, 1) := by decide +kernel
theorem dX12_keysOf_23 : decode cX12_keysOf 23 = .ok (.invokevirtual 320, 3) := by decide +kernel
theorem dX12_keysOf_26 : decode cX12_keysOf 26 = .ok (.istore 5, 2) := by decide +kernel
theorem dX12_keysOf_28 : decode cX12_keysOf 28 = .ok (.aload_n 0, 1) := by decide +kernel
theorem dX12_keysOf_29 : decode cX12_keysOf 29 = .ok (.iload_n 1, 1) := by decide +kernel
theorem dX12_keysOf_30 : decode cX12_keysOf 30 = .ok (.iconst 2, 1) := by decide +kernel
theorem dX12_keysOf_31 : decode cX12_keysOf 31 = .ok (.iconst 3, 1) := by decide +kernel
theorem dX12_keysOf_32 : decode cX12_keysOf 32 = .ok (.iload 4, 2) := by decide +kernel
theorem dX12_keysOf_34 : decode cX12_keysOf 34 = .ok (.imul, 1) := by decide +kernel
theorem dX12_keysOf_35 : decode cX12_keysOf 35 = .ok (.iadd, 1) := by decide +kernel
theorem dX12_keysOf_36 : decode cX12_keysOf 36 = .ok (.invokevirtual 320, 3) := by decide +kernel
theorem dX12_keysOf_39 : decode cX12_keysOf 39 = .ok (.istore 6, 2) := by decide +kernel
theorem dX12_keysOf_41 : decode cX12_keysOf 41 = .ok (.iload 5, 2) := by decide +kernel
theorem dX12_keysOf_43 : decode cX12_keysOf 43 = .ok (.iconst 5, 1) := by decide +kernel
theorem dX12_keysOf_44 : decode cX12_keysOf 44 = .ok (.if_icmp .ne 17, 3) := by decide +kernel
theorem dX12_keysOf_47 : decode cX12_keysOf 47 = .ok (.aload_n 0, 1) := by decide +kernel
theorem dX12_keysOf_48 : decode cX12_keysOf 48 = .ok (.iload_n 1, 1) := by decide +kernel
theorem dX12_keysOf_49 : decode cX12_keysOf 49 = .ok (.iconst 3, 1) := by decide +kernel
theorem dX12_keysOf_50 : decode cX12_keysOf 50 = .ok (.iconst 3, 1) := by decide +kernel
theorem dX12_keysOf_51 : decode cX12_keysOf 51 = .ok (.iload 4, 2) := by decide +kernel
theorem dX12_keysOf_53 : decode cX12_keysOf 53 = .ok (.imul, 1) := by decide +kernel
theorem dX12_keysOf_54 : decode cX12_keysOf 54 = .ok (.iadd, 1) := by decide +kernel
theorem dX12_keysOf_55 : decode cX12_keysOf 55 = .ok (.invokevirtual 320, 3) := by decide +kernel
theorem dX12_keysOf_58 : decode cX12_keysOf 58 = .ok (.goto 5, 3) := by decide +kernel
theorem dX12_keysOf_61 : decode cX12_keysOf 61 = .ok (.iload 6, 2) := by decide +kernel
theorem dX12_keysOf_63 : decode cX12_keysOf 63 = .ok (.istore 7, 2) := by decide +kernel
theorem dX12_keysOf_65 : decode cX12_keysOf 65 = .ok (.iload_n 2, 1) := by decide +kernel
theorem dX12_keysOf_66 : decode cX12_keysOf 66 = .ok (.ifCond .eq 22, 3) := by decide +kernel
theorem dX12_keysOf_69 : decode cX12_keysOf 69 = .ok (.iload 5, 2) := by decide +kernel
theorem dX12_keysOf_71 : decode cX12_keysOf 71 = .ok (.ifCond .eq 13, 3) := by decide +kernel
theorem dX12_keysOf_74 : decode cX12_keysOf 74 = .ok (.iload 5, 2) := by decide +kernel
theorem dX12_keysOf_76 : decode cX12_keysOf 76 = .ok (.iconst 5, 1) := by decide +kernel
theorem dX12_keysOf_77 : decode cX12_keysOf 77 = .ok (.if_icmp .eq 7, 3) := by decide +kernel
theorem dX12_keysOf_80 : decode cX12_keysOf 80 = .ok (.iconst 1, 1) := by decide +kernel
theorem dX12_keysOf_81 : decode cX12_keysOf 81 = .ok (.goto 29, 3) := by decide +kernel
theorem dX12_keysOf_84 : decode cX12_keysOf 84 = .ok (.iconst 0, 1) := by decide +kernel
theorem dX12_keysOf_85 : decode cX12_keysOf 85 = .ok (.goto 25, 3) := by decide +kernel
theorem dX12_keysOf_88 : decode cX12_keysOf 88 = .ok (.iload 5, 2) := by decide +kernel
theorem dX12_keysOf_90 : decode cX12_keysOf 90 = .ok (.ifCond .eq 15, 3) := by decide +kernel
theorem dX12_keysOf_93 : decode cX12_keysOf 93 = .ok (.iload 5, 2) := by decide +kernel
theorem dX12_keysOf_95 : decode cX12_keysOf 95 = .ok (.iconst 4, 1) := by decide +kernel
theorem dX12_keysOf_96 : decode cX12_keysOf 96 = .ok (.if_icmp .eq 9, 3) := by decide +kernel
theorem dX12_keysOf_99 : decode cX12_keysOf 99 = .ok (.iload 5, 2) := by decide +kernel
theorem dX12_keysOf_101 : decode cX12_keysOf 101 = .ok (.iconst 5, 1) := by decide +kernel
theorem dX12_keysOf_102 : decode cX12_keysOf 102 = .ok (.if_icmp .ne 7, 3) := by decide +kernel
theorem dX12_keysOf_105 : decode cX12_keysOf 105 = .ok (.iconst 1, 1) := by decide +kernel
theorem dX12_keysOf_106 : decode cX12_keysOf 106 = .ok (.goto 4, 3) := by decide +kernel
theorem dX12_keysOf_109 : decode cX12_keysOf 109 = .ok (.iconst 0, 1) := by decide +kernel
theorem dX12_keysOf_110 : decode cX12_keysOf 110 = .ok (.istore 8, 2) := by decide +kernel
theorem dX12_keysOf_112 : decode cX12_keysOf 112 = .ok (.iload 6, 2) := by decide +kernel
theorem dX12_keysOf_114 : decode cX12_keysOf 114 = .ok (.istore 9, 2) := by decide +kernel
theorem dX12_keysOf_116 : decode cX12_keysOf 116 = .ok (.iload 9, 2) := by decide +kernel
theorem dX12_keysOf_118 : decode cX12_keysOf 118 = .ok (.iload 7, 2) := by decide +kernel
theorem dX12_keysOf_120 : decode cX12_keysOf 120 = .ok (.if_icmp .gt 25, 3) := by decide +kernel
theorem dX12_keysOf_123 : decode cX12_keysOf 123 = .ok (.iload_n 3, 1) := by decide +kernel
theorem dX12_keysOf_124 : decode cX12_keysOf 124 = .ok (.iload 8, 2) := by decide +kernel
theorem dX12_keysOf_126 : decode cX12_keysOf 126 = .ok (.ifCond .eq 10, 3) := by decide +kernel
theorem dX12_keysOf_129 : decode cX12_keysOf 129 = .ok (.iconst 1, 1) := by decide +kernel
theorem dX12_keysOf_130 : decode cX12_keysOf 130 = .ok (.iload 9, 2) := by decide +kernel
theorem dX12_keysOf_132 : decode cX12_keysOf 132 = .ok (.ishl, 1) := by decide +kernel
theorem dX12_keysOf_133 : decode cX12_keysOf 133 = .ok (.goto 4, 3) := by decide +kernel
theorem dX12_keysOf_136 : decode cX12_keysOf 136 = .ok (.iconst 0, 1) := by decide +kernel
theorem dX12_keysOf_137 : decode cX12_keysOf 137 = .ok (.ior, 1) := by decide +kernel
theorem dX12_keysOf_138 : decode cX12_keysOf 138 = .ok (.istore_n 3, 1) := by decide +kernel
theorem dX12_keysOf_139 : decode cX12_keysOf 139 = .ok (.iinc 9 1, 3) := by decide +kernel
theorem dX12_keysOf_142 : decode cX12_keysOf 142 = .ok (.goto (-26), 3) := by decide +kernel
theorem dX12_keysOf_145 : decode cX12_keysOf 145 = .ok (.iinc 4 1, 3) := by decide +kernel
theorem dX12_keysOf_148 : decode cX12_keysOf 148 = .ok (.goto (-143), 3) := by decide +kernel
theorem dX12_keysOf_151 : decode cX12_keysOf 151 = .ok (.iload_n 3, 1) := by decide +kernel
theorem dX12_keysOf_152 : decode cX12_keysOf 152 = .ok (.ireturn, 1) := by decide +kernel
theorem dX12_keys_0 : decode cX12_keys 0 = .ok (.aload_n 0, 1) := by decide +kernel
theorem dX12_keys_1 : decode cX12_keys 1 = .ok (.iconst 0, 1) := by decide +kernel
theorem dX12_keys_2 : decode cX12_keys 2 = .ok (.putfield 144, 3) := by decide +kernel
theorem dX12_keys_5 : decode cX12_keys 5 = .ok (.aload_n 0, 1) := by decide +kernel
theorem dX12_keys_6 : decode cX12_keys 6 = .ok (.iload_n 1, 1) := by decide +kernel
theorem dX12_keys_7 : decode cX12_keys 7 = .ok (.invokevirtual 366, 3) := by decide +kernel
theorem dX12_keys_10 : decode cX12_keys 10 = .ok (.ifCond .eq 38, 3) := by decide +kernel
theorem dX12_keys_13 : decode cX12_keys 13 = .ok (.aload_n 0, 1) := by decide +kernel
theorem dX12_keys_14 : decode cX12_keys 14 = .ok (.iload_n 2, 1) := by decide +kernel
theorem dX12_keys_15 : decode cX12_keys 15 = .ok (.invokevirtual 378, 3) := by decide +kernel
theorem dX12_keys_18 : decode cX12_keys 18 = .ok (.ifCond .eq 30, 3) := by decide +kernel
theorem dX12_keys_21 : decode cX12_keys 21 = .ok (.iload_n 3, 1) := by decide +kernel
theorem dX12_keys_22 : decode cX12_keys 22 = .ok (.iconst 0, 1) := by decide +kernel
theorem dX12_keys_23 : decode cX12_keys 23 = .ok (.iconst 1, 1) := by decide +kernel
theorem dX12_keys_24 : decode cX12_keys 24 = .ok (.invokestatic 156, 3) := by decide +kernel
theorem dX12_keys_27 : decode cX12_keys 27 = .ok (.ifCond .eq 21, 3) := by decide +kernel
theorem dX12_keys_30 : decode cX12_keys 30 = .ok (.aload_n 0, 1) := by decide +kernel
theorem dX12_keys_31 : decode cX12_keys 31 = .ok (.iload_n 2, 1) := by decide +kernel
theorem dX12_keys_32 : decode cX12_keys 32 = .ok (.iload_n 3, 1) := by decide +kernel
theorem dX12_keys_33 : decode cX12_keys 33 = .ok (.iconst 1, 1) := by decide +kernel
theorem dX12_keys_34 : decode cX12_keys 34 = .ok (.if_icmp .ne 7, 3) := by decide +kernel
theorem dX12_keys_37 : decode cX12_keys 37 = .ok (.iconst 1, 1) := by decide +kernel
theorem dX12_keys_38 : decode cX12_keys 38 = .ok (.goto 4, 3) := by decide +kernel
theorem dX12_keys_41 : decode cX12_keys 41 = .ok (.iconst 0, 1) := by decide +kernel
theorem dX12_keys_42 : decode cX12_keys 42 = .ok (.invokevirtual 604, 3) := by decide +kernel
theorem dX12_keys_45 : decode cX12_keys 45 = .ok (.goto 4, 3) := by decide +kernel
theorem dX12_keys_48 : decode cX12_keys 48 = .ok (.iconst (-1), 1) := by decide +kernel
theorem dX12_keys_49 : decode cX12_keys 49 = .ok (.ireturn, 1) := by decide +kernel
theorem dX12_freeCouples_0 : decode cX12_freeCouples 0 = .ok (.iconst 0, 1) := by decide +kernel
theorem dX12_freeCouples_1 : decode cX12_freeCouples 1 = .ok (.istore_n 1, 1) := by decide +kernel
theorem dX12_freeCouples_2 : decode cX12_freeCouples 2 = .ok (.iconst 0, 1) := by decide +kernel
theorem dX12_freeCouples_3 : decode cX12_freeCouples 3 = .ok (.istore_n 2, 1) := by decide +kernel
theorem dX12_freeCouples_4 : decode cX12_freeCouples 4 = .ok (.iload_n 2, 1) := by decide +kernel
theorem dX12_freeCouples_5 : decode cX12_freeCouples 5 = .ok (.aload_n 0, 1) := by decide +kernel
theorem dX12_freeCouples_6 : decode cX12_freeCouples 6 = .ok (.getfield 323, 3) := by decide +kernel
theorem dX12_freeCouples_9 : decode cX12_freeCouples 9 = .ok (.if_icmp .ge 75, 3) := by decide +kernel
theorem dX12_freeCouples_12 : decode cX12_freeCouples 12 = .ok (.iconst 0, 1) := by decide +kernel
theorem dX12_freeCouples_13 : decode cX12_freeCouples 13 = .ok (.istore_n 3, 1) := by decide +kernel
theorem dX12_freeCouples_14 : decode cX12_freeCouples 14 = .ok (.iload_n 3, 1) := by decide +kernel
theorem dX12_freeCouples_15 : decode cX12_freeCouples 15 = .ok (.iload_n 2, 1) := by decide +kernel
theorem dX12_freeCouples_16 : decode cX12_freeCouples 16 = .ok (.if_icmp .ge 62, 3) := by decide +kernel
theorem dX12_freeCouples_19 : decode cX12_freeCouples 19 = .ok (.aload_n 0, 1) := by decide +kernel
theorem dX12_freeCouples_20 : decode cX12_freeCouples 20 = .ok (.iload_n 2, 1) := by decide +kernel
theorem dX12_freeCouples_21 : decode cX12_freeCouples 21 = .ok (.iconst 1, 1) := by decide +kernel
theorem dX12_freeCouples_22 : decode cX12_freeCouples 22 = .ok (.invokevirtual 604, 3) := by decide +kernel
theorem dX12_freeCouples_25 : decode cX12_freeCouples 25 = .ok (.aload_n 0, 1) := by decide +kernel
theorem dX12_freeCouples_26 : decode cX12_freeCouples 26 = .ok (.iload_n 3, 1) := by decide +kernel
theorem dX12_freeCouples_27 : decode cX12_freeCouples 27 = .ok (.iconst 1, 1) := by decide +kernel
theorem dX12_freeCouples_28 : decode cX12_freeCouples 28 = .ok (.invokevirtual 604, 3) := by decide +kernel
theorem dX12_freeCouples_31 : decode cX12_freeCouples 31 = .ok (.aload_n 0, 1) := by decide +kernel
theorem dX12_freeCouples_32 : decode cX12_freeCouples 32 = .ok (.iload_n 3, 1) := by decide +kernel
theorem dX12_freeCouples_33 : decode cX12_freeCouples 33 = .ok (.iconst 0, 1) := by decide +kernel
theorem dX12_freeCouples_34 : decode cX12_freeCouples 34 = .ok (.invokevirtual 604, 3) := by decide +kernel
theorem dX12_freeCouples_37 : decode cX12_freeCouples 37 = .ok (.ior, 1) := by decide +kernel
theorem dX12_freeCouples_38 : decode cX12_freeCouples 38 = .ok (.iand, 1) := by decide +kernel
theorem dX12_freeCouples_39 : decode cX12_freeCouples 39 = .ok (.istore 4, 2) := by decide +kernel
theorem dX12_freeCouples_41 : decode cX12_freeCouples 41 = .ok (.aload_n 0, 1) := by decide +kernel
theorem dX12_freeCouples_42 : decode cX12_freeCouples 42 = .ok (.iload_n 3, 1) := by decide +kernel
theorem dX12_freeCouples_43 : decode cX12_freeCouples 43 = .ok (.iconst 1, 1) := by decide +kernel
theorem dX12_freeCouples_44 : decode cX12_freeCouples 44 = .ok (.invokevirtual 604, 3) := by decide +kernel
theorem dX12_freeCouples_47 : decode cX12_freeCouples 47 = .ok (.aload_n 0, 1) := by decide +kernel
theorem dX12_freeCouples_48 : decode cX12_freeCouples 48 = .ok (.iload_n 2, 1) := by decide +kernel
theorem dX12_freeCouples_49 : decode cX12_freeCouples 49 = .ok (.iconst 0, 1) := by decide +kernel
theorem dX12_freeCouples_50 : decode cX12_freeCouples 50 = .ok (.invokevirtual 604, 3) := by decide +kernel
theorem dX12_freeCouples_53 : decode cX12_freeCouples 53 = .ok (.iand, 1) := by decide +kernel
theorem dX12_freeCouples_54 : decode cX12_freeCouples 54 = .ok (.istore 5, 2) := by decide +kernel
theorem dX12_freeCouples_56 : decode cX12_freeCouples 56 = .ok (.iload_n 1, 1) := by decide +kernel
theorem dX12_freeCouples_57 : decode cX12_freeCouples 57 = .ok (.iload 4, 2) := by decide +kernel
theorem dX12_freeCouples_59 : decode cX12_freeCouples 59 = .ok (.iload 5, 2) := by decide +kernel
theorem dX12_freeCouples_61 : decode cX12_freeCouples 61 = .ok (.ior, 1) := by decide +kernel
theorem dX12_freeCouples_62 : decode cX12_freeCouples 62 = .ok (.ifCond .ne 7, 3) := by decide +kernel
theorem dX12_freeCouples_65 : decode cX12_freeCouples 65 = .ok (.iconst 1, 1) := by decide +kernel
theorem dX12_freeCouples_66 : decode cX12_freeCouples 66 = .ok (.goto 4, 3) := by decide +kernel
theorem dX12_freeCouples_69 : decode cX12_freeCouples 69 = .ok (.iconst 0, 1) := by decide +kernel
theorem dX12_freeCouples_70 : decode cX12_freeCouples 70 = .ok (.iadd, 1) := by decide +kernel
theorem dX12_freeCouples_71 : decode cX12_freeCouples 71 = .ok (.istore_n 1, 1) := by decide +kernel
theorem dX12_freeCouples_72 : decode cX12_freeCouples 72 = .ok (.iinc 3 1, 3) := by decide +kernel
theorem dX12_freeCouples_75 : decode cX12_freeCouples 75 = .ok (.goto (-61), 3) := by decide +kernel
theorem dX12_freeCouples_78 : decode cX12_freeCouples 78 = .ok (.iinc 2 1, 3) := by decide +kernel
theorem dX12_freeCouples_81 : decode cX12_freeCouples 81 = .ok (.goto (-77), 3) := by decide +kernel
theorem dX12_freeCouples_84 : decode cX12_freeCouples 84 = .ok (.iload_n 1, 1) := by decide +kernel
theorem dX12_freeCouples_85 : decode cX12_freeCouples 85 = .ok (.ireturn, 1) := by decide +kernel
theorem dX12_free_0 : decode cX12_free 0 = .ok (.aload_n 0, 1) := by decide +kernel
theorem dX12_free_1 : decode cX12_free 1 = .ok (.iconst 0, 1) := by decide +kernel
theorem dX12_free_2 : decode cX12_free 2 = .ok (.putfield 144, 3) := by decide +kernel
theorem dX12_free_5 : decode cX12_free 5 = .ok (.aload_n 0, 1) := by decide +kernel
theorem dX12_free_6 : decode cX12_free 6 = .ok (.iload_n 1, 1) := by decide +kernel
theorem dX12_free_7 : decode cX12_free 7 = .ok (.invokevirtual 366, 3) := by decide +kernel
theorem dX12_free_10 : decode cX12_free 10 = .ok (.ifCond .eq 12, 3) := by decide +kernel
theorem dX12_free_13 : decode cX12_free 13 = .ok (.iload_n 2, 1) := by decide +kernel
theorem dX12_free_14 : decode cX12_free 14 = .ok (.iconst 0, 1) := by decide +kernel
theorem dX12_free_15 : decode cX12_free 15 = .ok (.iconst 1, 1) := by decide +kernel
theorem dX12_free_16 : decode cX12_free 16 = .ok (.invokestatic 156, 3) := by decide +kernel
theorem dX12_free_19 : decode cX12_free 19 = .ok (.ifCond .ne 5, 3) := by decide +kernel
theorem dX12_free_22 : decode cX12_free 22 = .ok (.iconst (-1), 1) := by decide +kernel
theorem dX12_free_23 : decode cX12_free 23 = .ok (.ireturn, 1) := by decide +kernel
theorem dX12_free_24 : decode cX12_free 24 = .ok (.iload_n 2, 1) := by decide +kernel
theorem dX12_free_25 : decode cX12_free 25 = .ok (.ifCond .ne 8, 3) := by decide +kernel
theorem dX12_free_28 : decode cX12_free 28 = .ok (.aload_n 0, 1) := by decide +kernel
theorem dX12_free_29 : decode cX12_free 29 = .ok (.invokevirtual 607, 3) := by decide +kernel
theorem dX12_free_32 : decode cX12_free 32 = .ok (.ireturn, 1) := by decide +kernel
theorem dX12_free_33 : decode cX12_free 33 = .ok (.iconst 0, 1) := by decide +kernel
theorem dX12_free_34 : decode cX12_free 34 = .ok (.istore_n 3, 1) := by decide +kernel
theorem dX12_free_35 : decode cX12_free 35 = .ok (.iconst 0, 1) := by decide +kernel
theorem dX12_free_36 : decode cX12_free 36 = .ok (.istore 4, 2) := by decide +kernel
theorem dX12_free_38 : decode cX12_free 38 = .ok (.iload 4, 2) := by decide +kernel
theorem dX12_free_40 : decode cX12_free 40 = .ok (.aload_n 0, 1) := by decide +kernel
theorem dX12_free_41 : decode cX12_free 41 = .ok (.getfield 323, 3) := by decide +kernel
theorem dX12_free_44 : decode cX12_free 44 = .ok (.if_icmp .ge 40, 3) := by decide +kernel
theorem dX12_free_47 : decode cX12_free 47 = .ok (.iload_n 3, 1) := by decide +kernel
theorem dX12_free_48 : decode cX12_free 48 = .ok (.aload_n 0, 1) := by decide +kernel
theorem dX12_free_49 : decode cX12_free 49 = .ok (.iload 4, 2) := by decide +kernel
theorem dX12_free_51 : decode cX12_free 51 = .ok (.iconst 1, 1) := by decide +kernel
theorem dX12_free_52 : decode cX12_free 52 = .ok (.invokevirtual 604, 3) := by decide +kernel
theorem dX12_free_55 : decode cX12_free 55 = .ok (.ifCond .eq 20, 3) := by decide +kernel
theorem dX12_free_58 : decode cX12_free 58 = .ok (.aload_n 0, 1) := by decide +kernel
theorem dX12_free_59 : decode cX12_free 59 = .ok (.iload 4, 2) := by decide +kernel
theorem dX12_free_61 : decode cX12_free 61 = .ok (.iconst 0, 1) := by decide +kernel
theorem dX12_free_62 : decode cX12_free 62 = .ok (.invokevirtual 604, 3) := by decide +kernel
theorem dX12_free_65 : decode cX12_free 65 = .ok (.ifCond .ne 10, 3) := by decide +kernel
theorem dX12_free_68 : decode cX12_free 68 = .ok (.iconst 1, 1) := by decide +kernel
theorem dX12_free_69 : decode cX12_free 69 = .ok (.iload 4, 2) := by decide +kernel
theorem dX12_free_71 : decode cX12_free 71 = .ok (.ishl, 1) := by decide +kernel
theorem dX12_free_72 : decode cX12_free 72 = .ok (.goto 4, 3) := by decide +kernel
theorem dX12_free_75 : decode cX12_free 75 = .ok (.iconst 0, 1) := by decide +kernel
theorem dX12_free_76 : decode cX12_free 76 = .ok (.ior, 1) := by decide +kernel
theorem dX12_free_77 : decode cX12_free 77 = .ok (.istore_n 3, 1) := by decide +kernel
theorem dX12_free_78 : decode cX12_free 78 = .ok (.iinc 4 1, 3) := by decide +kernel
theorem dX12_free_81 : decode cX12_free 81 = .ok (.goto (-43), 3) := by decide +kernel
theorem dX12_free_84 : decode cX12_free 84 = .ok (.iload_n 3, 1) := by decide +kernel
theorem dX12_free_85 : decode cX12_free 85 = .ok (.ireturn, 1) := by decide +kernel
theorem dX12_alone_0 : decode cX12_alone 0 = .ok (.aload_n 0, 1) := by decide +kernel
theorem dX12_alone_1 : decode cX12_alone 1 = .ok (.iconst 0, 1) := by decide +kernel
theorem dX12_alone_2 : decode cX12_alone 2 = .ok (.putfield 144, 3) := by decide +kernel
theorem dX12_alone_5 : decode cX12_alone 5 = .ok (.aload_n 0, 1) := by decide +kernel
theorem dX12_alone_6 : decode cX12_alone 6 = .ok (.iload_n 1, 1) := by decide +kernel
theorem dX12_alone_7 : decode cX12_alone 7 = .ok (.iload_n 2, 1) := by decide +kernel
theorem dX12_alone_8 : decode cX12_alone 8 = .ok (.invokevirtual 487, 3) := by decide +kernel
theorem dX12_alone_11 : decode cX12_alone 11 = .ok (.ifCond .eq 11, 3) := by decide +kernel
theorem dX12_alone_14 : decode cX12_alone 14 = .ok (.aload_n 0, 1) := by decide +kernel
theorem dX12_alone_15 : decode cX12_alone 15 = .ok (.iload_n 3, 1) := by decide +kernel
theorem dX12_alone_16 : decode cX12_alone 16 = .ok (.invokevirtual 378, 3) := by decide +kernel
theorem dX12_alone_19 : decode cX12_alone 19 = .ok (.ifCond .ne 6, 3) := by decide +kernel
theorem dX12_alone_22 : decode cX12_alone 22 = .ok (.bipush (-2), 2) := by decide +kernel
theorem dX12_alone_24 : decode cX12_alone 24 = .ok (.ireturn, 1) := by decide +kernel
theorem dX12_alone_25 : decode cX12_alone 25 = .ok (.aload_n 0, 1) := by decide +kernel
theorem dX12_alone_26 : decode cX12_alone 26 = .ok (.iload_n 3, 1) := by decide +kernel
theorem dX12_alone_27 : decode cX12_alone 27 = .ok (.invokevirtual 524, 3) := by decide +kernel
theorem dX12_alone_30 : decode cX12_alone 30 = .ok (.iload 4, 2) := by decide +kernel
theorem dX12_alone_32 : decode cX12_alone 32 = .ok (.ifCond .ne 12, 3) := by decide +kernel
theorem dX12_alone_35 : decode cX12_alone 35 = .ok (.aload_n 0, 1) := by decide +kernel
theorem dX12_alone_36 : decode cX12_alone 36 = .ok (.getfield 65, 3) := by decide +kernel
theorem dX12_alone_39 : decode cX12_alone 39 = .ok (.iconst 0, 1) := by decide +kernel
theorem dX12_alone_40 : decode cX12_alone 40 = .ok (.iaload, 1) := by decide +kernel
theorem dX12_alone_41 : decode cX12_alone 41 = .ok (.goto 29, 3) := by decide +kernel
theorem dX12_alone_44 : decode cX12_alone 44 = .ok (.iload 4, 2) := by decide +kernel
theorem dX12_alone_46 : decode cX12_alone 46 = .ok (.bipush 10, 2) := by decide +kernel
theorem dX12_alone_48 : decode cX12_alone 48 = .ok (.bipush 19, 2) := by decide +kernel
theorem dX12_alone_50 : decode cX12_alone 50 = .ok (.invokestatic 156, 3) := by decide +kernel
theorem dX12_alone_53 : decode cX12_alone 53 = .ok (.ifCond .eq 15, 3) := by decide +kernel
theorem dX12_alone_56 : decode cX12_alone 56 = .ok (.aload_n 0, 1) := by decide +kernel
theorem dX12_alone_57 : decode cX12_alone 57 = .ok (.iload 4, 2) := by decide +kernel
theorem dX12_alone_59 : decode cX12_alone 59 = .ok (.bipush 10, 2) := by decide +kernel
theorem dX12_alone_61 : decode cX12_alone 61 = .ok (.isub, 1) := by decide +kernel
theorem dX12_alone_62 : decode cX12_alone 62 = .ok (.invokevirtual 554, 3) := by decide +kernel
theorem dX12_alone_65 : decode cX12_alone 65 = .ok (.goto 5, 3) := by decide +kernel
theorem dX12_alone_68 : decode cX12_alone 68 = .ok (.bipush (-2), 2) := by decide +kernel
theorem dX12_alone_70 : decode cX12_alone 70 = .ok (.ireturn, 1) := by decide +kernel
theorem dX12_isSwap_0 : decode cX12_isSwap 0 = .ok (.aload_n 0, 1) := by decide +kernel
theorem dX12_isSwap_1 : decode cX12_isSwap 1 = .ok (.invokevirtual 339, 3) := by decide +kernel
theorem dX12_isSwap_4 : decode cX12_isSwap 4 = .ok (.aload_n 0, 1) := by decide +kernel
theorem dX12_isSwap_5 : decode cX12_isSwap 5 = .ok (.iload_n 1, 1) := by decide +kernel
theorem dX12_isSwap_6 : decode cX12_isSwap 6 = .ok (.invokevirtual 524, 3) := by decide +kernel
theorem dX12_isSwap_9 : decode cX12_isSwap 9 = .ok (.aload_n 0, 1) := by decide +kernel
theorem dX12_isSwap_10 : decode cX12_isSwap 10 = .ok (.iload_n 2, 1) := by decide +kernel
theorem dX12_isSwap_11 : decode cX12_isSwap 11 = .ok (.invokevirtual 524, 3) := by decide +kernel
theorem dX12_isSwap_14 : decode cX12_isSwap 14 = .ok (.aload_n 0, 1) := by decide +kernel
theorem dX12_isSwap_15 : decode cX12_isSwap 15 = .ok (.invokevirtual 521, 3) := by decide +kernel
theorem dX12_isSwap_18 : decode cX12_isSwap 18 = .ok (.aload_n 0, 1) := by decide +kernel
theorem dX12_isSwap_19 : decode cX12_isSwap 19 = .ok (.invokevirtual 339, 3) := by decide +kernel
theorem dX12_isSwap_22 : decode cX12_isSwap 22 = .ok (.aload_n 0, 1) := by decide +kernel
theorem dX12_isSwap_23 : decode cX12_isSwap 23 = .ok (.iload_n 2, 1) := by decide +kernel
theorem dX12_isSwap_24 : decode cX12_isSwap 24 = .ok (.invokevirtual 524, 3) := by decide +kernel
theorem dX12_isSwap_27 : decode cX12_isSwap 27 = .ok (.aload_n 0, 1) := by decide +kernel
theorem dX12_isSwap_28 : decode cX12_isSwap 28 = .ok (.iload_n 1, 1) := by decide +kernel
theorem dX12_isSwap_29 : decode cX12_isSwap 29 = .ok (.invokevirtual 524, 3) := by decide +kernel
theorem dX12_isSwap_32 : decode cX12_isSwap 32 = .ok (.aload_n 0, 1) := by decide +kernel
theorem dX12_isSwap_33 : decode cX12_isSwap 33 = .ok (.invokevirtual 527, 3) := by decide +kernel
theorem dX12_isSwap_36 : decode cX12_isSwap 36 = .ok (.ireturn, 1) := by decide +kernel
theorem dX12_swaps_0 : decode cX12_swaps 0 = .ok (.aload_n 0, 1) := by decide +kernel
theorem dX12_swaps_1 : decode cX12_swaps 1 = .ok (.iconst 0, 1) := by decide +kernel
theorem dX12_swaps_2 : decode cX12_swaps 2 = .ok (.putfield 144, 3) := by decide +kernel
theorem dX12_swaps_5 : decode cX12_swaps 5 = .ok (.aload_n 0, 1) := by decide +kernel
theorem dX12_swaps_6 : decode cX12_swaps 6 = .ok (.iload_n 1, 1) := by decide +kernel
theorem dX12_swaps_7 : decode cX12_swaps 7 = .ok (.iload_n 2, 1) := by decide +kernel
theorem dX12_swaps_8 : decode cX12_swaps 8 = .ok (.invokevirtual 487, 3) := by decide +kernel
theorem dX12_swaps_11 : decode cX12_swaps 11 = .ok (.ifCond .ne 5, 3) := by decide +kernel
theorem dX12_swaps_14 : decode cX12_swaps 14 = .ok (.iconst (-1), 1) := by decide +kernel
theorem dX12_swaps_15 : decode cX12_swaps 15 = .ok (.ireturn, 1) := by decide +kernel
theorem dX12_swaps_16 : decode cX12_swaps 16 = .ok (.iconst 0, 1) := by decide +kernel
theorem dX12_swaps_17 : decode cX12_swaps 17 = .ok (.istore_n 3, 1) := by decide +kernel
theorem dX12_swaps_18 : decode cX12_swaps 18 = .ok (.iconst 0, 1) := by decide +kernel
theorem dX12_swaps_19 : decode cX12_swaps 19 = .ok (.istore 4, 2) := by decide +kernel
theorem dX12_swaps_21 : decode cX12_swaps 21 = .ok (.iload 4, 2) := by decide +kernel
theorem dX12_swaps_23 : decode cX12_swaps 23 = .ok (.aload_n 0, 1) := by decide +kernel
theorem dX12_swaps_24 : decode cX12_swaps 24 = .ok (.getfield 323, 3) := by decide +kernel
theorem dX12_swaps_27 : decode cX12_swaps 27 = .ok (.if_icmp .ge 44, 3) := by decide +kernel
theorem dX12_swaps_30 : decode cX12_swaps 30 = .ok (.iconst 0, 1) := by decide +kernel
theorem dX12_swaps_31 : decode cX12_swaps 31 = .ok (.istore 5, 2) := by decide +kernel
theorem dX12_swaps_33 : decode cX12_swaps 33 = .ok (.iload 5, 2) := by decide +kernel
theorem dX12_swaps_35 : decode cX12_swaps 35 = .ok (.iload 4, 2) := by decide +kernel
theorem dX12_swaps_37 : decode cX12_swaps 37 = .ok (.if_icmp .ge 28, 3) := by decide +kernel
theorem dX12_swaps_40 : decode cX12_swaps 40 = .ok (.iload_n 3, 1) := by decide +kernel
theorem dX12_swaps_41 : decode cX12_swaps 41 = .ok (.aload_n 0, 1) := by decide +kernel
theorem dX12_swaps_42 : decode cX12_swaps 42 = .ok (.iload 4, 2) := by decide +kernel
theorem dX12_swaps_44 : decode cX12_swaps 44 = .ok (.iload 5, 2) := by decide +kernel
theorem dX12_swaps_46 : decode cX12_swaps 46 = .ok (.invokevirtual 610, 3) := by decide +kernel
theorem dX12_swaps_49 : decode cX12_swaps 49 = .ok (.ifCond .eq 7, 3) := by decide +kernel
theorem dX12_swaps_52 : decode cX12_swaps 52 = .ok (.iconst 1, 1) := by decide +kernel
theorem dX12_swaps_53 : decode cX12_swaps 53 = .ok (.goto 4, 3) := by decide +kernel
theorem dX12_swaps_56 : decode cX12_swaps 56 = .ok (.iconst 0, 1) := by decide +kernel
theorem dX12_swaps_57 : decode cX12_swaps 57 = .ok (.iadd, 1) := by decide +kernel
theorem dX12_swaps_58 : decode cX12_swaps 58 = .ok (.istore_n 3, 1) := by decide +kernel
theorem dX12_swaps_59 : decode cX12_swaps 59 = .ok (.iinc 5 1, 3) := by decide +kernel
theorem dX12_swaps_62 : decode cX12_swaps 62 = .ok (.goto (-29), 3) := by decide +kernel
theorem dX12_swaps_65 : decode cX12_swaps 65 = .ok (.iinc 4 1, 3) := by decide +kernel
theorem dX12_swaps_68 : decode cX12_swaps 68 = .ok (.goto (-47), 3) := by decide +kernel
theorem dX12_swaps_71 : decode cX12_swaps 71 = .ok (.iload_n 3, 1) := by decide +kernel
theorem dX12_swaps_72 : decode cX12_swaps 72 = .ok (.ireturn, 1) := by decide +kernel
theorem dX12_endsOf_0 : decode cX12_endsOf 0 = .ok (.aload_n 0, 1) := by decide +kernel
theorem dX12_endsOf_1 : decode cX12_endsOf 1 = .ok (.getfield 62, 3) := by decide +kernel
theorem dX12_endsOf_4 : decode cX12_endsOf 4 = .ok (.iload_n 1, 1) := by decide +kernel
theorem dX12_endsOf_5 : decode cX12_endsOf 5 = .ok (.iaload, 1) := by decide +kernel
theorem dX12_endsOf_6 : decode cX12_endsOf 6 = .ok (.aload_n 0, 1) := by decide +kernel
theorem dX12_endsOf_7 : decode cX12_endsOf 7 = .ok (.aload_n 0, 1) := by decide +kernel
theorem dX12_endsOf_8 : decode cX12_endsOf 8 = .ok (.getfield 59, 3) := by decide +kernel
theorem dX12_endsOf_11 : decode cX12_endsOf 11 = .ok (.iload_n 1, 1) := by decide +kernel
theorem dX12_endsOf_12 : decode cX12_endsOf 12 = .ok (.iaload, 1) := by decide +kernel
theorem dX12_endsOf_13 : decode cX12_endsOf 13 = .ok (.invokevirtual 381, 3) := by decide +kernel
theorem dX12_endsOf_16 : decode cX12_endsOf 16 = .ok (.if_icmp .ne 49, 3) := by decide +kernel
theorem dX12_endsOf_19 : decode cX12_endsOf 19 = .ok (.aload_n 0, 1) := by decide +kernel
theorem dX12_endsOf_20 : decode cX12_endsOf 20 = .ok (.iload_n 1, 1) := by decide +kernel
theorem dX12_endsOf_21 : decode cX12_endsOf 21 = .ok (.iconst (-1), 1) := by decide +kernel
theorem dX12_endsOf_22 : decode cX12_endsOf 22 = .ok (.invokevirtual 463, 3) := by decide +kernel
theorem dX12_endsOf_25 : decode cX12_endsOf 25 = .ok (.pop, 1) := by decide +kernel
theorem dX12_endsOf_26 : decode cX12_endsOf 26 = .ok (.aload_n 0, 1) := by decide +kernel
theorem dX12_endsOf_27 : decode cX12_endsOf 27 = .ok (.iload_n 1, 1) := by decide +kernel
theorem dX12_endsOf_28 : decode cX12_endsOf 28 = .ok (.ifCond .ne 10, 3) := by decide +kernel
theorem dX12_endsOf_31 : decode cX12_endsOf 31 = .ok (.aload_n 0, 1) := by decide +kernel
theorem dX12_endsOf_32 : decode cX12_endsOf 32 = .ok (.getfield 403, 3) := by decide +kernel
theorem dX12_endsOf_35 : decode cX12_endsOf 35 = .ok (.goto 7, 3) := by decide +kernel
theorem dX12_endsOf_38 : decode cX12_endsOf 38 = .ok (.aload_n 0, 1) := by decide +kernel
theorem dX12_endsOf_39 : decode cX12_endsOf 39 = .ok (.getfield 613, 3) := by decide +kernel
theorem dX12_endsOf_42 : decode cX12_endsOf 42 = .ok (.putfield 613, 3) := by decide +kernel
theorem dX12_endsOf_45 : decode cX12_endsOf 45 = .ok (.aload_n 0, 1) := by decide +kernel
theorem dX12_endsOf_46 : decode cX12_endsOf 46 = .ok (.iload_n 1, 1) := by decide +kernel
theorem dX12_endsOf_47 : decode cX12_endsOf 47 = .ok (.iconst 1, 1) := by decide +kernel
theorem dX12_endsOf_48 : decode cX12_endsOf 48 = .ok (.if_icmp .ne 10, 3) := by decide +kernel
theorem dX12_endsOf_51 : decode cX12_endsOf 51 = .ok (.aload_n 0, 1) := by decide +kernel
theorem dX12_endsOf_52 : decode cX12_endsOf 52 = .ok (.getfield 403, 3) := by decide +kernel
theorem dX12_endsOf_55 : decode cX12_endsOf 55 = .ok (.goto 7, 3) := by decide +kernel
theorem dX12_endsOf_58 : decode cX12_endsOf 58 = .ok (.aload_n 0, 1) := by decide +kernel
theorem dX12_endsOf_59 : decode cX12_endsOf 59 = .ok (.getfield 616, 3) := by decide +kernel
theorem dX12_endsOf_62 : decode cX12_endsOf 62 = .ok (.putfield 616, 3) := by decide +kernel
theorem dX12_endsOf_65 : decode cX12_endsOf 65 = .ok (.return_, 1) := by decide +kernel
theorem dX12_weaves_0 : decode cX12_weaves 0 = .ok (.aload_n 0, 1) := by decide +kernel
theorem dX12_weaves_1 : decode cX12_weaves 1 = .ok (.invokevirtual 375, 3) := by decide +kernel
theorem dX12_weaves_4 : decode cX12_weaves 4 = .ok (.aload_n 0, 1) := by decide +kernel
theorem dX12_weaves_5 : decode cX12_weaves 5 = .ok (.iconst 0, 1) := by decide +kernel
theorem dX12_weaves_6 : decode cX12_weaves 6 = .ok (.iload_n 1, 1) := by decide +kernel
theorem dX12_weaves_7 : decode cX12_weaves 7 = .ok (.invokevirtual 469, 3) := by decide +kernel
theorem dX12_weaves_10 : decode cX12_weaves 10 = .ok (.aload_n 0, 1) := by decide +kernel
theorem dX12_weaves_11 : decode cX12_weaves 11 = .ok (.iconst 1, 1) := by decide +kernel
theorem dX12_weaves_12 : decode cX12_weaves 12 = .ok (.iload_n 2, 1) := by decide +kernel
theorem dX12_weaves_13 : decode cX12_weaves 13 = .ok (.invokevirtual 469, 3) := by decide +kernel
theorem dX12_weaves_16 : decode cX12_weaves 16 = .ok (.aload_n 0, 1) := by decide +kernel
theorem dX12_weaves_17 : decode cX12_weaves 17 = .ok (.iload_n 1, 1) := by decide +kernel
theorem dX12_weaves_18 : decode cX12_weaves 18 = .ok (.invokevirtual 381, 3) := by decide +kernel
theorem dX12_weaves_21 : decode cX12_weaves 21 = .ok (.ifCond .ne 8, 3) := by decide +kernel
theorem dX12_weaves_24 : decode cX12_weaves 24 = .ok (.aload_n 0, 1) := by decide +kernel
theorem dX12_weaves_25 : decode cX12_weaves 25 = .ok (.iconst 0, 1) := by decide +kernel
theorem dX12_weaves_26 : decode cX12_weaves 26 = .ok (.invokevirtual 619, 3) := by decide +kernel
theorem dX12_weaves_29 : decode cX12_weaves 29 = .ok (.aload_n 0, 1) := by decide +kernel
theorem dX12_weaves_30 : decode cX12_weaves 30 = .ok (.iload_n 2, 1) := by decide +kernel
theorem dX12_weaves_31 : decode cX12_weaves 31 = .ok (.invokevirtual 381, 3) := by decide +kernel
theorem dX12_weaves_34 : decode cX12_weaves 34 = .ok (.ifCond .ne 8, 3) := by decide +kernel
theorem dX12_weaves_37 : decode cX12_weaves 37 = .ok (.aload_n 0, 1) := by decide +kernel
theorem dX12_weaves_38 : decode cX12_weaves 38 = .ok (.iconst 1, 1) := by decide +kernel
theorem dX12_weaves_39 : decode cX12_weaves 39 = .ok (.invokevirtual 619, 3) := by decide +kernel
theorem dX12_weaves_42 : decode cX12_weaves 42 = .ok (.iconst 0, 1) := by decide +kernel
theorem dX12_weaves_43 : decode cX12_weaves 43 = .ok (.istore 5, 2) := by decide +kernel
theorem dX12_weaves_45 : decode cX12_weaves 45 = .ok (.iload 5, 2) := by decide +kernel
theorem dX12_weaves_47 : decode cX12_weaves 47 = .ok (.iload 4, 2) := by decide +kernel
theorem dX12_weaves_49 : decode cX12_weaves 49 = .ok (.if_icmp .ge 38, 3) := by decide +kernel
theorem dX12_weaves_52 : decode cX12_weaves 52 = .ok (.iload_n 3, 1) := by decide +kernel
theorem dX12_weaves_53 : decode cX12_weaves 53 = .ok (.iload 5, 2) := by decide +kernel
theorem dX12_weaves_55 : decode cX12_weaves 55 = .ok (.invokestatic 148, 3) := by decide +kernel
theorem dX12_weaves_58 : decode cX12_weaves 58 = .ok (.ifCond .eq 7, 3) := by decide +kernel
theorem dX12_weaves_61 : decode cX12_weaves 61 = .ok (.iconst 0, 1) := by decide +kernel
theorem dX12_weaves_62 : decode cX12_weaves 62 = .ok (.goto 4, 3) := by decide +kernel
theorem dX12_weaves_65 : decode cX12_weaves 65 = .ok (.iconst 1, 1) := by decide +kernel
theorem dX12_weaves_66 : decode cX12_weaves 66 = .ok (.istore 6, 2) := by decide +kernel
theorem dX12_weaves_68 : decode cX12_weaves 68 = .ok (.aload_n 0, 1) := by decide +kernel
theorem dX12_weaves_69 : decode cX12_weaves 69 = .ok (.iload 6, 2) := by decide +kernel
theorem dX12_weaves_71 : decode cX12_weaves 71 = .ok (.invokevirtual 460, 3) := by decide +kernel
theorem dX12_weaves_74 : decode cX12_weaves 74 = .ok (.pop, 1) := by decide +kernel
theorem dX12_weaves_75 : decode cX12_weaves 75 = .ok (.aload_n 0, 1) := by decide +kernel
theorem dX12_weaves_76 : decode cX12_weaves 76 = .ok (.iload 6, 2) := by decide +kernel
theorem dX12_weaves_78 : decode cX12_weaves 78 = .ok (.invokevirtual 619, 3) := by decide +kernel
theorem dX12_weaves_81 : decode cX12_weaves 81 = .ok (.iinc 5 1, 3) := by decide +kernel
theorem dX12_weaves_84 : decode cX12_weaves 84 = .ok (.goto (-39), 3) := by decide +kernel
theorem dX12_weaves_87 : decode cX12_weaves 87 = .ok (.aload_n 0, 1) := by decide +kernel
theorem dX12_weaves_88 : decode cX12_weaves 88 = .ok (.dup, 1) := by decide +kernel
theorem dX12_weaves_89 : decode cX12_weaves 89 = .ok (.getfield 622, 3) := by decide +kernel
theorem dX12_weaves_92 : decode cX12_weaves 92 = .ok (.iconst 1, 1) := by decide +kernel
theorem dX12_weaves_93 : decode cX12_weaves 93 = .ok (.iadd, 1) := by decide +kernel
theorem dX12_weaves_94 : decode cX12_weaves 94 = .ok (.putfield 622, 3) := by decide +kernel
theorem dX12_weaves_97 : decode cX12_weaves 97 = .ok (.aload_n 0, 1) := by decide +kernel
theorem dX12_weaves_98 : decode cX12_weaves 98 = .ok (.dup, 1) := by decide +kernel
theorem dX12_weaves_99 : decode cX12_weaves 99 = .ok (.getfield 625, 3) := by decide +kernel
theorem dX12_weaves_102 : decode cX12_weaves 102 = .ok (.aload_n 0, 1) := by decide +kernel
theorem dX12_weaves_103 : decode cX12_weaves 103 = .ok (.getfield 613, 3) := by decide +kernel
theorem dX12_weaves_106 : decode cX12_weaves 106 = .ok (.iconst 1, 1) := by decide +kernel
theorem dX12_weaves_107 : decode cX12_weaves 107 = .ok (.if_icmp .ne 15, 3) := by decide +kernel
theorem dX12_weaves_110 : decode cX12_weaves 110 = .ok (.aload_n 0, 1) := by decide +kernel
theorem dX12_weaves_111 : decode cX12_weaves 111 = .ok (.getfield 616, 3) := by decide +kernel
theorem dX12_weaves_114 : decode cX12_weaves 114 = .ok (.iconst 1, 1) := by decide +kernel
theorem dX12_weaves_115 : decode cX12_weaves 115 = .ok (.if_icmp .ne 7, 3) := by decide +kernel
theorem dX12_weaves_118 : decode cX12_weaves 118 = .ok (.iconst 1, 1) := by decide +kernel
theorem dX12_weaves_119 : decode cX12_weaves 119 = .ok (.goto 4, 3) := by decide +kernel
theorem dX12_weaves_122 : decode cX12_weaves 122 = .ok (.iconst 0, 1) := by decide +kernel
theorem dX12_weaves_123 : decode cX12_weaves 123 = .ok (.iadd, 1) := by decide +kernel
theorem dX12_weaves_124 : decode cX12_weaves 124 = .ok (.putfield 625, 3) := by decide +kernel
theorem dX12_weaves_127 : decode cX12_weaves 127 = .ok (.aload_n 0, 1) := by decide +kernel
theorem dX12_weaves_128 : decode cX12_weaves 128 = .ok (.dup, 1) := by decide +kernel
theorem dX12_weaves_129 : decode cX12_weaves 129 = .ok (.getfield 628, 3) := by decide +kernel
theorem dX12_weaves_132 : decode cX12_weaves 132 = .ok (.aload_n 0, 1) := by decide +kernel
theorem dX12_weaves_133 : decode cX12_weaves 133 = .ok (.getfield 613, 3) := by decide +kernel
theorem dX12_weaves_136 : decode cX12_weaves 136 = .ok (.iconst 1, 1) := by decide +kernel
theorem dX12_weaves_137 : decode cX12_weaves 137 = .ok (.if_icmp .le 7, 3) := by decide +kernel
theorem dX12_weaves_140 : decode cX12_weaves 140 = .ok (.iconst 1, 1) := by decide +kernel
theorem dX12_weaves_141 : decode cX12_weaves 141 = .ok (.goto 4, 3) := by decide +kernel
theorem dX12_weaves_144 : decode cX12_weaves 144 = .ok (.iconst 0, 1) := by decide +kernel
theorem dX12_weaves_145 : decode cX12_weaves 145 = .ok (.iadd, 1) := by decide +kernel
theorem dX12_weaves_146 : decode cX12_weaves 146 = .ok (.putfield 628, 3) := by decide +kernel
theorem dX12_weaves_149 : decode cX12_weaves 149 = .ok (.aload_n 0, 1) := by decide +kernel
theorem dX12_weaves_150 : decode cX12_weaves 150 = .ok (.dup, 1) := by decide +kernel
theorem dX12_weaves_151 : decode cX12_weaves 151 = .ok (.getfield 631, 3) := by decide +kernel
theorem dX12_weaves_154 : decode cX12_weaves 154 = .ok (.aload_n 0, 1) := by decide +kernel
theorem dX12_weaves_155 : decode cX12_weaves 155 = .ok (.getfield 616, 3) := by decide +kernel
theorem dX12_weaves_158 : decode cX12_weaves 158 = .ok (.iconst 1, 1) := by decide +kernel
theorem dX12_weaves_159 : decode cX12_weaves 159 = .ok (.if_icmp .le 7, 3) := by decide +kernel
theorem dX12_weaves_162 : decode cX12_weaves 162 = .ok (.iconst 1, 1) := by decide +kernel
theorem dX12_weaves_163 : decode cX12_weaves 163 = .ok (.goto 4, 3) := by decide +kernel
theorem dX12_weaves_166 : decode cX12_weaves 166 = .ok (.iconst 0, 1) := by decide +kernel
theorem dX12_weaves_167 : decode cX12_weaves 167 = .ok (.iadd, 1) := by decide +kernel
theorem dX12_weaves_168 : decode cX12_weaves 168 = .ok (.putfield 631, 3) := by decide +kernel
theorem dX12_weaves_171 : decode cX12_weaves 171 = .ok (.aload_n 0, 1) := by decide +kernel
theorem dX12_weaves_172 : decode cX12_weaves 172 = .ok (.dup, 1) := by decide +kernel
theorem dX12_weaves_173 : decode cX12_weaves 173 = .ok (.getfield 634, 3) := by decide +kernel
theorem dX12_weaves_176 : decode cX12_weaves 176 = .ok (.aload_n 0, 1) := by decide +kernel
theorem dX12_weaves_177 : decode cX12_weaves 177 = .ok (.getfield 613, 3) := by decide +kernel
theorem dX12_weaves_180 : decode cX12_weaves 180 = .ok (.iconst 3, 1) := by decide +kernel
theorem dX12_weaves_181 : decode cX12_weaves 181 = .ok (.if_icmp .eq 11, 3) := by decide +kernel
theorem dX12_weaves_184 : decode cX12_weaves 184 = .ok (.aload_n 0, 1) := by decide +kernel
theorem dX12_weaves_185 : decode cX12_weaves 185 = .ok (.getfield 616, 3) := by decide +kernel
theorem dX12_weaves_188 : decode cX12_weaves 188 = .ok (.iconst 3, 1) := by decide +kernel
theorem dX12_weaves_189 : decode cX12_weaves 189 = .ok (.if_icmp .ne 7, 3) := by decide +kernel
theorem dX12_weaves_192 : decode cX12_weaves 192 = .ok (.iconst 1, 1) := by decide +kernel
theorem dX12_weaves_193 : decode cX12_weaves 193 = .ok (.goto 4, 3) := by decide +kernel
theorem dX12_weaves_196 : decode cX12_weaves 196 = .ok (.iconst 0, 1) := by decide +kernel
theorem dX12_weaves_197 : decode cX12_weaves 197 = .ok (.iadd, 1) := by decide +kernel
theorem dX12_weaves_198 : decode cX12_weaves 198 = .ok (.putfield 634, 3) := by decide +kernel
theorem dX12_weaves_201 : decode cX12_weaves 201 = .ok (.return_, 1) := by decide +kernel
theorem dX12_bitsIn_0 : decode cX12_bitsIn 0 = .ok (.iconst 0, 1) := by decide +kernel
theorem dX12_bitsIn_1 : decode cX12_bitsIn 1 = .ok (.istore_n 2, 1) := by decide +kernel
theorem dX12_bitsIn_2 : decode cX12_bitsIn 2 = .ok (.iconst 0, 1) := by decide +kernel
theorem dX12_bitsIn_3 : decode cX12_bitsIn 3 = .ok (.istore_n 3, 1) := by decide +kernel
theorem dX12_bitsIn_4 : decode cX12_bitsIn 4 = .ok (.iload_n 3, 1) := by decide +kernel
theorem dX12_bitsIn_5 : decode cX12_bitsIn 5 = .ok (.iload_n 1, 1) := by decide +kernel
theorem dX12_bitsIn_6 : decode cX12_bitsIn 6 = .ok (.if_icmp .ge 25, 3) := by decide +kernel
theorem dX12_bitsIn_9 : decode cX12_bitsIn 9 = .ok (.iload_n 2, 1) := by decide +kernel
theorem dX12_bitsIn_10 : decode cX12_bitsIn 10 = .ok (.iload_n 0, 1) := by decide +kernel
theorem dX12_bitsIn_11 : decode cX12_bitsIn 11 = .ok (.iload_n 3, 1) := by decide +kernel
theorem dX12_bitsIn_12 : decode cX12_bitsIn 12 = .ok (.invokestatic 148, 3) := by decide +kernel
theorem dX12_bitsIn_15 : decode cX12_bitsIn 15 = .ok (.ifCond .eq 7, 3) := by decide +kernel
theorem dX12_bitsIn_18 : decode cX12_bitsIn 18 = .ok (.iconst 1, 1) := by decide +kernel
theorem dX12_bitsIn_19 : decode cX12_bitsIn 19 = .ok (.goto 4, 3) := by decide +kernel
theorem dX12_bitsIn_22 : decode cX12_bitsIn 22 = .ok (.iconst 0, 1) := by decide +kernel
theorem dX12_bitsIn_23 : decode cX12_bitsIn 23 = .ok (.iadd, 1) := by decide +kernel
theorem dX12_bitsIn_24 : decode cX12_bitsIn 24 = .ok (.istore_n 2, 1) := by decide +kernel
theorem dX12_bitsIn_25 : decode cX12_bitsIn 25 = .ok (.iinc 3 1, 3) := by decide +kernel
theorem dX12_bitsIn_28 : decode cX12_bitsIn 28 = .ok (.goto (-24), 3) := by decide +kernel
theorem dX12_bitsIn_31 : decode cX12_bitsIn 31 = .ok (.iload_n 2, 1) := by decide +kernel
theorem dX12_bitsIn_32 : decode cX12_bitsIn 32 = .ok (.ireturn, 1) := by decide +kernel
theorem dX12_weaveAll_0 : decode cX12_weaveAll 0 = .ok (.aload_n 0, 1) := by decide +kernel
theorem dX12_weaveAll_1 : decode cX12_weaveAll 1 = .ok (.iconst 0, 1) := by decide +kernel
theorem dX12_weaveAll_2 : decode cX12_weaveAll 2 = .ok (.putfield 622, 3) := by decide +kernel
theorem dX12_weaveAll_5 : decode cX12_weaveAll 5 = .ok (.aload_n 0, 1) := by decide +kernel
theorem dX12_weaveAll_6 : decode cX12_weaveAll 6 = .ok (.iconst 0, 1) := by decide +kernel
theorem dX12_weaveAll_7 : decode cX12_weaveAll 7 = .ok (.putfield 625, 3) := by decide +kernel
theorem dX12_weaveAll_10 : decode cX12_weaveAll 10 = .ok (.aload_n 0, 1) := by decide +kernel
theorem dX12_weaveAll_11 : decode cX12_weaveAll 11 = .ok (.iconst 0, 1) := by decide +kernel
theorem dX12_weaveAll_12 : decode cX12_weaveAll 12 = .ok (.putfield 628, 3) := by decide +kernel
theorem dX12_weaveAll_15 : decode cX12_weaveAll 15 = .ok (.aload_n 0, 1) := by decide +kernel
theorem dX12_weaveAll_16 : decode cX12_weaveAll 16 = .ok (.iconst 0, 1) := by decide +kernel
theorem dX12_weaveAll_17 : decode cX12_weaveAll 17 = .ok (.putfield 631, 3) := by decide +kernel
theorem dX12_weaveAll_20 : decode cX12_weaveAll 20 = .ok (.aload_n 0, 1) := by decide +kernel
theorem dX12_weaveAll_21 : decode cX12_weaveAll 21 = .ok (.iconst 0, 1) := by decide +kernel
theorem dX12_weaveAll_22 : decode cX12_weaveAll 22 = .ok (.putfield 634, 3) := by decide +kernel
theorem dX12_weaveAll_25 : decode cX12_weaveAll 25 = .ok (.aload_n 0, 1) := by decide +kernel
theorem dX12_weaveAll_26 : decode cX12_weaveAll 26 = .ok (.iload_n 1, 1) := by decide +kernel
theorem dX12_weaveAll_27 : decode cX12_weaveAll 27 = .ok (.invokevirtual 381, 3) := by decide +kernel
theorem dX12_weaveAll_30 : decode cX12_weaveAll 30 = .ok (.aload_n 0, 1) := by decide +kernel
theorem dX12_weaveAll_31 : decode cX12_weaveAll 31 = .ok (.iload_n 2, 1) := by decide +kernel
theorem dX12_weaveAll_32 : decode cX12_weaveAll 32 = .ok (.invokevirtual 381, 3) := by decide +kernel
theorem dX12_weaveAll_35 : decode cX12_weaveAll 35 = .ok (.iadd, 1) := by decide +kernel
theorem dX12_weaveAll_36 : decode cX12_weaveAll 36 = .ok (.istore_n 3, 1) := by decide +kernel
theorem dX12_weaveAll_37 : decode cX12_weaveAll 37 = .ok (.iconst 0, 1) := by decide +kernel
theorem dX12_weaveAll_38 : decode cX12_weaveAll 38 = .ok (.istore 4, 2) := by decide +kernel
theorem dX12_weaveAll_40 : decode cX12_weaveAll 40 = .ok (.iload 4, 2) := by decide +kernel
theorem dX12_weaveAll_42 : decode cX12_weaveAll 42 = .ok (.iconst 1, 1) := by decide +kernel
theorem dX12_weaveAll_43 : decode cX12_weaveAll 43 = .ok (.iload_n 3, 1) := by decide +kernel
theorem dX12_weaveAll_44 : decode cX12_weaveAll 44 = .ok (.ishl, 1) := by decide +kernel
theorem dX12_weaveAll_45 : decode cX12_weaveAll 45 = .ok (.if_icmp .ge 32, 3) := by decide +kernel
theorem dX12_weaveAll_48 : decode cX12_weaveAll 48 = .ok (.iload 4, 2) := by decide +kernel
theorem dX12_weaveAll_50 : decode cX12_weaveAll 50 = .ok (.iload_n 3, 1) := by decide +kernel
theorem dX12_weaveAll_51 : decode cX12_weaveAll 51 = .ok (.invokestatic 637, 3) := by decide +kernel
theorem dX12_weaveAll_54 : decode cX12_weaveAll 54 = .ok (.aload_n 0, 1) := by decide +kernel
theorem dX12_weaveAll_55 : decode cX12_weaveAll 55 = .ok (.iload_n 1, 1) := by decide +kernel
theorem dX12_weaveAll_56 : decode cX12_weaveAll 56 = .ok (.invokevirtual 381, 3) := by decide +kernel
theorem dX12_weaveAll_59 : decode cX12_weaveAll 59 = .ok (.if_icmp .ne 12, 3) := by decide +kernel
theorem dX12_weaveAll_62 : decode cX12_weaveAll 62 = .ok (.aload_n 0, 1) := by decide +kernel
theorem dX12_weaveAll_63 : decode cX12_weaveAll 63 = .ok (.iload_n 1, 1) := by decide +kernel
theorem dX12_weaveAll_64 : decode cX12_weaveAll 64 = .ok (.iload_n 2, 1) := by decide +kernel
theorem dX12_weaveAll_65 : decode cX12_weaveAll 65 = .ok (.iload 4, 2) := by decide +kernel
theorem dX12_weaveAll_67 : decode cX12_weaveAll 67 = .ok (.iload_n 3, 1) := by decide +kernel
theorem dX12_weaveAll_68 : decode cX12_weaveAll 68 = .ok (.invokevirtual 640, 3) := by decide +kernel
theorem dX12_weaveAll_71 : decode cX12_weaveAll 71 = .ok (.iinc 4 1, 3) := by decide +kernel
theorem dX12_weaveAll_74 : decode cX12_weaveAll 74 = .ok (.goto (-34), 3) := by decide +kernel
theorem dX12_weaveAll_77 : decode cX12_weaveAll 77 = .ok (.return_, 1) := by decide +kernel
theorem dX12_weave_0 : decode cX12_weave 0 = .ok (.aload_n 0, 1) := by decide +kernel
theorem dX12_weave_1 : decode cX12_weave 1 = .ok (.iconst 0, 1) := by decide +kernel
theorem dX12_weave_2 : decode cX12_weave 2 = .ok (.putfield 144, 3) := by decide +kernel
theorem dX12_weave_5 : decode cX12_weave 5 = .ok (.iload 5, 2) := by decide +kernel
theorem dX12_weave_7 : decode cX12_weave 7 = .ok (.iconst 0, 1) := by decide +kernel
theorem dX12_weave_8 : decode cX12_weave 8 = .ok (.iconst 4, 1) := by decide +kernel
theorem dX12_weave_9 : decode cX12_weave 9 = .ok (.invokestatic 156, 3) := by decide +kernel
theorem dX12_weave_12 : decode cX12_weave 12 = .ok (.ifCond .eq 29, 3) := by decide +kernel
theorem dX12_weave_15 : decode cX12_weave 15 = .ok (.aload_n 0, 1) := by decide +kernel
theorem dX12_weave_16 : decode cX12_weave 16 = .ok (.iload_n 1, 1) := by decide +kernel
theorem dX12_weave_17 : decode cX12_weave 17 = .ok (.iload_n 2, 1) := by decide +kernel
theorem dX12_weave_18 : decode cX12_weave 18 = .ok (.invokevirtual 487, 3) := by decide +kernel
theorem dX12_weave_21 : decode cX12_weave 21 = .ok (.ifCond .eq 20, 3) := by decide +kernel
theorem dX12_weave_24 : decode cX12_weave 24 = .ok (.aload_n 0, 1) := by decide +kernel
theorem dX12_weave_25 : decode cX12_weave 25 = .ok (.iload_n 3, 1) := by decide +kernel
theorem dX12_weave_26 : decode cX12_weave 26 = .ok (.invokevirtual 378, 3) := by decide +kernel
theorem dX12_weave_29 : decode cX12_weave 29 = .ok (.ifCond .eq 12, 3) := by decide +kernel
theorem dX12_weave_32 : decode cX12_weave 32 = .ok (.aload_n 0, 1) := by decide +kernel
theorem dX12_weave_33 : decode cX12_weave 33 = .ok (.iload 4, 2) := by decide +kernel
theorem dX12_weave_35 : decode cX12_weave 35 = .ok (.invokevirtual 378, 3) := by decide +kernel
theorem dX12_weave_38 : decode cX12_weave 38 = .ok (.ifCond .ne 5, 3) := by decide +kernel
theorem dX12_weave_41 : decode cX12_weave 41 = .ok (.iconst (-1), 1) := by decide +kernel
theorem dX12_weave_42 : decode cX12_weave 42 = .ok (.ireturn, 1) := by decide +kernel
theorem dX12_weave_43 : decode cX12_weave 43 = .ok (.aload_n 0, 1) := by decide +kernel
theorem dX12_weave_44 : decode cX12_weave 44 = .ok (.iload_n 3, 1) := by decide +kernel
theorem dX12_weave_45 : decode cX12_weave 45 = .ok (.iload 4, 2) := by decide +kernel
theorem dX12_weave_47 : decode cX12_weave 47 = .ok (.invokevirtual 643, 3) := by decide +kernel
theorem dX12_weave_50 : decode cX12_weave 50 = .ok (.iload 5, 2) := by decide +kernel
theorem dX12_weave_52 : decode cX12_weave 52 = .ok (.tableswitch 52 0 3 #[32, 37, 42, 47], 32) := by decide +kernel
theorem dX12_weave_84 : decode cX12_weave 84 = .ok (.aload_n 0, 1) := by decide +kernel
theorem dX12_weave_85 : decode cX12_weave 85 = .ok (.getfield 622, 3) := by decide +kernel
theorem dX12_weave_88 : decode cX12_weave 88 = .ok (.ireturn, 1) := by decide +kernel
theorem dX12_weave_89 : decode cX12_weave 89 = .ok (.aload_n 0, 1) := by decide +kernel
theorem dX12_weave_90 : decode cX12_weave 90 = .ok (.getfield 625, 3) := by decide +kernel
theorem dX12_weave_93 : decode cX12_weave 93 = .ok (.ireturn, 1) := by decide +kernel
theorem dX12_weave_94 : decode cX12_weave 94 = .ok (.aload_n 0, 1) := by decide +kernel
theorem dX12_weave_95 : decode cX12_weave 95 = .ok (.getfield 628, 3) := by decide +kernel
theorem dX12_weave_98 : decode cX12_weave 98 = .ok (.ireturn, 1) := by decide +kernel
theorem dX12_weave_99 : decode cX12_weave 99 = .ok (.aload_n 0, 1) := by decide +kernel
theorem dX12_weave_100 : decode cX12_weave 100 = .ok (.getfield 631, 3) := by decide +kernel
theorem dX12_weave_103 : decode cX12_weave 103 = .ok (.ireturn, 1) := by decide +kernel
theorem dX12_weave_104 : decode cX12_weave 104 = .ok (.aload_n 0, 1) := by decide +kernel
theorem dX12_weave_105 : decode cX12_weave 105 = .ok (.getfield 634, 3) := by decide +kernel
theorem dX12_weave_108 : decode cX12_weave 108 = .ok (.ireturn, 1) := by decide +kernel
theorem dX12_risk_0 : decode cX12_risk 0 = .ok (.aload_n 0, 1) := by decide +kernel
theorem dX12_risk_1 : decode cX12_risk 1 = .ok (.iconst 0, 1) := by decide +kernel
theorem dX12_risk_2 : decode cX12_risk 2 = .ok (.putfield 144, 3) := by decide +kernel
theorem dX12_risk_5 : decode cX12_risk 5 = .ok (.aload_n 0, 1) := by decide +kernel
theorem dX12_risk_6 : decode cX12_risk 6 = .ok (.iload_n 1, 1) := by decide +kernel
theorem dX12_risk_7 : decode cX12_risk 7 = .ok (.iload_n 2, 1) := by decide +kernel
theorem dX12_risk_8 : decode cX12_risk 8 = .ok (.invokevirtual 487, 3) := by decide +kernel
theorem dX12_risk_11 : decode cX12_risk 11 = .ok (.ifCond .eq 11, 3) := by decide +kernel
theorem dX12_risk_14 : decode cX12_risk 14 = .ok (.aload_n 0, 1) := by decide +kernel
theorem dX12_risk_15 : decode cX12_risk 15 = .ok (.iload_n 3, 1) := by decide +kernel
theorem dX12_risk_16 : decode cX12_risk 16 = .ok (.invokevirtual 378, 3) := by decide +kernel
theorem dX12_risk_19 : decode cX12_risk 19 = .ok (.ifCond .ne 5, 3) := by decide +kernel
theorem dX12_risk_22 : decode cX12_risk 22 = .ok (.iconst (-1), 1) := by decide +kernel
theorem dX12_risk_23 : decode cX12_risk 23 = .ok (.ireturn, 1) := by decide +kernel
theorem dX12_risk_24 : decode cX12_risk 24 = .ok (.iconst 0, 1) := by decide +kernel
theorem dX12_risk_25 : decode cX12_risk 25 = .ok (.istore 4, 2) := by decide +kernel
theorem dX12_risk_27 : decode cX12_risk 27 = .ok (.iconst 0, 1) := by decide +kernel
theorem dX12_risk_28 : decode cX12_risk 28 = .ok (.istore 5, 2) := by decide +kernel
theorem dX12_risk_30 : decode cX12_risk 30 = .ok (.iload 5, 2) := by decide +kernel
theorem dX12_risk_32 : decode cX12_risk 32 = .ok (.aload_n 0, 1) := by decide +kernel
theorem dX12_risk_33 : decode cX12_risk 33 = .ok (.getfield 323, 3) := by decide +kernel
theorem dX12_risk_36 : decode cX12_risk 36 = .ok (.if_icmp .ge 36, 3) := by decide +kernel
theorem dX12_risk_39 : decode cX12_risk 39 = .ok (.aload_n 0, 1) := by decide +kernel
theorem dX12_risk_40 : decode cX12_risk 40 = .ok (.iload_n 3, 1) := by decide +kernel
theorem dX12_risk_41 : decode cX12_risk 41 = .ok (.iload 5, 2) := by decide +kernel
theorem dX12_risk_43 : decode cX12_risk 43 = .ok (.invokevirtual 643, 3) := by decide +kernel
theorem dX12_risk_46 : decode cX12_risk 46 = .ok (.iload 4, 2) := by decide +kernel
theorem dX12_risk_48 : decode cX12_risk 48 = .ok (.aload_n 0, 1) := by decide +kernel
theorem dX12_risk_49 : decode cX12_risk 49 = .ok (.getfield 628, 3) := by decide +kernel
theorem dX12_risk_52 : decode cX12_risk 52 = .ok (.ifCond .le 10, 3) := by decide +kernel
theorem dX12_risk_55 : decode cX12_risk 55 = .ok (.iconst 1, 1) := by decide +kernel
theorem dX12_risk_56 : decode cX12_risk 56 = .ok (.iload 5, 2) := by decide +kernel
theorem dX12_risk_58 : decode cX12_risk 58 = .ok (.ishl, 1) := by decide +kernel
theorem dX12_risk_59 : decode cX12_risk 59 = .ok (.goto 4, 3) := by decide +kernel
theorem dX12_risk_62 : decode cX12_risk 62 = .ok (.iconst 0, 1) := by decide +kernel
theorem dX12_risk_63 : decode cX12_risk 63 = .ok (.ior, 1) := by decide +kernel
theorem dX12_risk_64 : decode cX12_risk 64 = .ok (.istore 4, 2) := by decide +kernel
theorem dX12_risk_66 : decode cX12_risk 66 = .ok (.iinc 5 1, 3) := by decide +kernel
theorem dX12_risk_69 : decode cX12_risk 69 = .ok (.goto (-39), 3) := by decide +kernel
theorem dX12_risk_72 : decode cX12_risk 72 = .ok (.iload 4, 2) := by decide +kernel
theorem dX12_risk_74 : decode cX12_risk 74 = .ok (.ireturn, 1) := by decide +kernel
theorem dX12_oftenest_0 : decode cX12_oftenest 0 = .ok (.iconst (-1), 1) := by decide +kernel
theorem dX12_oftenest_1 : decode cX12_oftenest 1 = .ok (.istore_n 1, 1) := by decide +kernel
theorem dX12_oftenest_2 : decode cX12_oftenest 2 = .ok (.iconst 0, 1) := by decide +kernel
theorem dX12_oftenest_3 : decode cX12_oftenest 3 = .ok (.istore_n 2, 1) := by decide +kernel
theorem dX12_oftenest_4 : decode cX12_oftenest 4 = .ok (.iload_n 2, 1) := by decide +kernel
theorem dX12_oftenest_5 : decode cX12_oftenest 5 = .ok (.aload_n 0, 1) := by decide +kernel
theorem dX12_oftenest_6 : decode cX12_oftenest 6 = .ok (.getfield 323, 3) := by decide +kernel
theorem dX12_oftenest_9 : decode cX12_oftenest 9 = .ok (.if_icmp .ge 39, 3) := by decide +kernel
theorem dX12_oftenest_12 : decode cX12_oftenest 12 = .ok (.aload_n 0, 1) := by decide +kernel
theorem dX12_oftenest_13 : decode cX12_oftenest 13 = .ok (.getfield 113, 3) := by decide +kernel
theorem dX12_oftenest_16 : decode cX12_oftenest 16 = .ok (.iload_n 2, 1) := by decide +kernel
theorem dX12_oftenest_17 : decode cX12_oftenest 17 = .ok (.iaload, 1) := by decide +kernel
theorem dX12_oftenest_18 : decode cX12_oftenest 18 = .ok (.iload_n 1, 1) := by decide +kernel
theorem dX12_oftenest_19 : decode cX12_oftenest 19 = .ok (.iconst (-1), 1) := by decide +kernel
theorem dX12_oftenest_20 : decode cX12_oftenest 20 = .ok (.if_icmp .ne 7, 3) := by decide +kernel
theorem dX12_oftenest_23 : decode cX12_oftenest 23 = .ok (.iconst 0, 1) := by decide +kernel
theorem dX12_oftenest_24 : decode cX12_oftenest 24 = .ok (.goto 9, 3) := by decide +kernel
theorem dX12_oftenest_27 : decode cX12_oftenest 27 = .ok (.aload_n 0, 1) := by decide +kernel
theorem dX12_oftenest_28 : decode cX12_oftenest 28 = .ok (.getfield 113, 3) := by decide +kernel
theorem dX12_oftenest_31 : decode cX12_oftenest 31 = .ok (.iload_n 1, 1) := by decide +kernel
theorem dX12_oftenest_32 : decode cX12_oftenest 32 = .ok (.iaload, 1) := by decide +kernel
theorem dX12_oftenest_33 : decode cX12_oftenest 33 = .ok (.if_icmp .le 7, 3) := by decide +kernel
theorem dX12_oftenest_36 : decode cX12_oftenest 36 = .ok (.iload_n 2, 1) := by decide +kernel
theorem dX12_oftenest_37 : decode cX12_oftenest 37 = .ok (.goto 4, 3) := by decide +kernel
theorem dX12_oftenest_40 : decode cX12_oftenest 40 = .ok (.iload_n 1, 1) := by decide +kernel
theorem dX12_oftenest_41 : decode cX12_oftenest 41 = .ok (.istore_n 1, 1) := by decide +kernel
theorem dX12_oftenest_42 : decode cX12_oftenest 42 = .ok (.iinc 2 1, 3) := by decide +kernel
theorem dX12_oftenest_45 : decode cX12_oftenest 45 = .ok (.goto (-41), 3) := by decide +kernel
theorem dX12_oftenest_48 : decode cX12_oftenest 48 = .ok (.iload_n 1, 1) := by decide +kernel
theorem dX12_oftenest_49 : decode cX12_oftenest 49 = .ok (.ireturn, 1) := by decide +kernel
theorem dX12_hottest_0 : decode cX12_hottest 0 = .ok (.iconst (-1), 1) := by decide +kernel
theorem dX12_hottest_1 : decode cX12_hottest 1 = .ok (.istore_n 1, 1) := by decide +kernel
theorem dX12_hottest_2 : decode cX12_hottest 2 = .ok (.iconst 0, 1) := by decide +kernel
theorem dX12_hottest_3 : decode cX12_hottest 3 = .ok (.istore_n 2, 1) := by decide +kernel
theorem dX12_hottest_4 : decode cX12_hottest 4 = .ok (.iload_n 2, 1) := by decide +kernel
theorem dX12_hottest_5 : decode cX12_hottest 5 = .ok (.bipush 10, 2) := by decide +kernel
theorem dX12_hottest_7 : decode cX12_hottest 7 = .ok (.if_icmp .ge 39, 3) := by decide +kernel
theorem dX12_hottest_10 : decode cX12_hottest 10 = .ok (.aload_n 0, 1) := by decide +kernel
theorem dX12_hottest_11 : decode cX12_hottest 11 = .ok (.getfield 116, 3) := by decide +kernel
theorem dX12_hottest_14 : decode cX12_hottest 14 = .ok (.iload_n 2, 1) := by decide +kernel
theorem dX12_hottest_15 : decode cX12_hottest 15 = .ok (.iaload, 1) := by decide +kernel
theorem dX12_hottest_16 : decode cX12_hottest 16 = .ok (.iload_n 1, 1) := by decide +kernel
theorem dX12_hottest_17 : decode cX12_hottest 17 = .ok (.iconst (-1), 1) := by decide +kernel
theorem dX12_hottest_18 : decode cX12_hottest 18 = .ok (.if_icmp .ne 7, 3) := by decide +kernel
theorem dX12_hottest_21 : decode cX12_hottest 21 = .ok (.iconst 0, 1) := by decide +kernel
theorem dX12_hottest_22 : decode cX12_hottest 22 = .ok (.goto 9, 3) := by decide +kernel
theorem dX12_hottest_25 : decode cX12_hottest 25 = .ok (.aload_n 0, 1) := by decide +kernel
theorem dX12_hottest_26 : decode cX12_hottest 26 = .ok (.getfield 116, 3) := by decide +kernel
theorem dX12_hottest_29 : decode cX12_hottest 29 = .ok (.iload_n 1, 1) := by decide +kernel
theorem dX12_hottest_30 : decode cX12_hottest 30 = .ok (.iaload, 1) := by decide +kernel
theorem dX12_hottest_31 : decode cX12_hottest 31 = .ok (.if_icmp .le 7, 3) := by decide +kernel
theorem dX12_hottest_34 : decode cX12_hottest 34 = .ok (.iload_n 2, 1) := by decide +kernel
theorem dX12_hottest_35 : decode cX12_hottest 35 = .ok (.goto 4, 3) := by decide +kernel
theorem dX12_hottest_38 : decode cX12_hottest 38 = .ok (.iload_n 1, 1) := by decide +kernel
theorem dX12_hottest_39 : decode cX12_hottest 39 = .ok (.istore_n 1, 1) := by decide +kernel
theorem dX12_hottest_40 : decode cX12_hottest 40 = .ok (.iinc 2 1, 3) := by decide +kernel
theorem dX12_hottest_43 : decode cX12_hottest 43 = .ok (.goto (-39), 3) := by decide +kernel
theorem dX12_hottest_46 : decode cX12_hottest 46 = .ok (.iload_n 1, 1) := by decide +kernel
theorem dX12_hottest_47 : decode cX12_hottest 47 = .ok (.ireturn, 1) := by decide +kernel
theorem dX12_topStamp_0 : decode cX12_topStamp 0 = .ok (.iconst 0, 1) := by decide +kernel
theorem dX12_topStamp_1 : decode cX12_topStamp 1 = .ok (.istore_n 1, 1) := by decide +kernel
theorem dX12_topStamp_2 : decode cX12_topStamp 2 = .ok (.iconst 0, 1) := by decide +kernel
theorem dX12_topStamp_3 : decode cX12_topStamp 3 = .ok (.istore_n 2, 1) := by decide +kernel
theorem dX12_topStamp_4 : decode cX12_topStamp 4 = .ok (.iload_n 2, 1) := by decide +kernel
theorem dX12_topStamp_5 : decode cX12_topStamp 5 = .ok (.bipush 10, 2) := by decide +kernel
theorem dX12_topStamp_7 : decode cX12_topStamp 7 = .ok (.if_icmp .ge 20, 3) := by decide +kernel
theorem dX12_topStamp_10 : decode cX12_topStamp 10 = .ok (.iload_n 1, 1) := by decide +kernel
theorem dX12_topStamp_11 : decode cX12_topStamp 11 = .ok (.aload_n 0, 1) := by decide +kernel
theorem dX12_topStamp_12 : decode cX12_topStamp 12 = .ok (.getfield 47, 3) := by decide +kernel
theorem dX12_topStamp_15 : decode cX12_topStamp 15 = .ok (.iload_n 2, 1) := by decide +kernel
theorem dX12_topStamp_16 : decode cX12_topStamp 16 = .ok (.iaload, 1) := by decide +kernel
theorem dX12_topStamp_17 : decode cX12_topStamp 17 = .ok (.invokestatic 415, 3) := by decide +kernel
theorem dX12_topStamp_20 : decode cX12_topStamp 20 = .ok (.istore_n 1, 1) := by decide +kernel
theorem dX12_topStamp_21 : decode cX12_topStamp 21 = .ok (.iinc 2 1, 3) := by decide +kernel
theorem dX12_topStamp_24 : decode cX12_topStamp 24 = .ok (.goto (-20), 3) := by decide +kernel
theorem dX12_topStamp_27 : decode cX12_topStamp 27 = .ok (.iload_n 1, 1) := by decide +kernel
theorem dX12_topStamp_28 : decode cX12_topStamp 28 = .ok (.ireturn, 1) := by decide +kernel
theorem dX12_after_0 : decode cX12_after 0 = .ok (.aload_n 0, 1) := by decide +kernel
theorem dX12_after_1 : decode cX12_after 1 = .ok (.iconst 0, 1) := by decide +kernel
theorem dX12_after_2 : decode cX12_after 2 = .ok (.putfield 144, 3) := by decide +kernel
theorem dX12_after_5 : decode cX12_after 5 = .ok (.aload_n 0, 1) := by decide +kernel
theorem dX12_after_6 : decode cX12_after 6 = .ok (.iload_n 1, 1) := by decide +kernel
theorem dX12_after_7 : decode cX12_after 7 = .ok (.iload_n 2, 1) := by decide +kernel
theorem dX12_after_8 : decode cX12_after 8 = .ok (.iload_n 3, 1) := by decide +kernel
theorem dX12_after_9 : decode cX12_after 9 = .ok (.invokevirtual 490, 3) := by decide +kernel
theorem dX12_after_12 : decode cX12_after 12 = .ok (.ifCond .ne 6, 3) := by decide +kernel
theorem dX12_after_15 : decode cX12_after 15 = .ok (.bipush (-2), 2) := by decide +kernel
theorem dX12_after_17 : decode cX12_after 17 = .ok (.ireturn, 1) := by decide +kernel
theorem dX12_after_18 : decode cX12_after 18 = .ok (.aload_n 0, 1) := by decide +kernel
theorem dX12_after_19 : decode cX12_after 19 = .ok (.aload_n 0, 1) := by decide +kernel
theorem dX12_after_20 : decode cX12_after 20 = .ok (.invokevirtual 477, 3) := by decide +kernel
theorem dX12_after_23 : decode cX12_after 23 = .ok (.invokevirtual 493, 3) := by decide +kernel
theorem dX12_after_26 : decode cX12_after 26 = .ok (.pop, 1) := by decide +kernel
theorem dX12_after_27 : decode cX12_after 27 = .ok (.iload 4, 2) := by decide +kernel
theorem dX12_after_29 : decode cX12_after 29 = .ok (.tableswitch 69 0 5 #[39, 44, 49, 54, 59, 64], 39) := by decide +kernel
theorem dX12_after_68 : decode cX12_after 68 = .ok (.aload_n 0, 1) := by decide +kernel
theorem dX12_after_69 : decode cX12_after 69 = .ok (.invokevirtual 646, 3) := by decide +kernel
theorem dX12_after_72 : decode cX12_after 72 = .ok (.ireturn, 1) := by decide +kernel
theorem dX12_after_73 : decode cX12_after 73 = .ok (.aload_n 0, 1) := by decide +kernel
theorem dX12_after_74 : decode cX12_after 74 = .ok (.invokevirtual 649, 3) := by decide +kernel
theorem dX12_after_77 : decode cX12_after 77 = .ok (.ireturn, 1) := by decide +kernel
theorem dX12_after_78 : decode cX12_after 78 = .ok (.aload_n 0, 1) := by decide +kernel
theorem dX12_after_79 : decode cX12_after 79 = .ok (.getfield 354, 3) := by decide +kernel
theorem dX12_after_82 : decode cX12_after 82 = .ok (.ireturn, 1) := by decide +kernel
theorem dX12_after_83 : decode cX12_after 83 = .ok (.aload_n 0, 1) := by decide +kernel
theorem dX12_after_84 : decode cX12_after 84 = .ok (.getfield 357, 3) := by decide +kernel
theorem dX12_after_87 : decode cX12_after 87 = .ok (.ireturn, 1) := by decide +kernel
theorem dX12_after_88 : decode cX12_after 88 = .ok (.aload_n 0, 1) := by decide +kernel
theorem dX12_after_89 : decode cX12_after 89 = .ok (.getfield 360, 3) := by decide +kernel
theorem dX12_after_92 : decode cX12_after 92 = .ok (.ireturn, 1) := by decide +kernel
theorem dX12_after_93 : decode cX12_after 93 = .ok (.aload_n 0, 1) := by decide +kernel
theorem dX12_after_94 : decode cX12_after 94 = .ok (.invokevirtual 652, 3) := by decide +kernel
theorem dX12_after_97 : decode cX12_after 97 = .ok (.ireturn, 1) := by decide +kernel
theorem dX12_after_98 : decode cX12_after 98 = .ok (.bipush (-2), 2) := by decide +kernel
theorem dX12_after_100 : decode cX12_after 100 = .ok (.ireturn, 1) := by decide +kernel
theorem dX12_count_0 : decode cX12_count 0 = .ok (.aload_n 0, 1) := by decide +kernel
theorem dX12_count_1 : decode cX12_count 1 = .ok (.iconst 0, 1) := by decide +kernel
theorem dX12_count_2 : decode cX12_count 2 = .ok (.putfield 144, 3) := by decide +kernel
theorem dX12_count_5 : decode cX12_count 5 = .ok (.iload_n 1, 1) := by decide +kernel
theorem dX12_count_6 : decode cX12_count 6 = .ok (.iconst 0, 1) := by decide +kernel
theorem dX12_count_7 : decode cX12_count 7 = .ok (.iconst 3, 1) := by decide +kernel
theorem dX12_count_8 : decode cX12_count 8 = .ok (.invokestatic 156, 3) := by decide +kernel
theorem dX12_count_11 : decode cX12_count 11 = .ok (.ifCond .eq 12, 3) := by decide +kernel
theorem dX12_count_14 : decode cX12_count 14 = .ok (.aload_n 0, 1) := by decide +kernel
theorem dX12_count_15 : decode cX12_count 15 = .ok (.getfield 23, 3) := by decide +kernel
theorem dX12_count_18 : decode cX12_count 18 = .ok (.iload_n 1, 1) := by decide +kernel
theorem dX12_count_19 : decode cX12_count 19 = .ok (.iaload, 1) := by decide +kernel
theorem dX12_count_20 : decode cX12_count 20 = .ok (.goto 5, 3) := by decide +kernel
theorem dX12_count_23 : decode cX12_count 23 = .ok (.bipush (-2), 2) := by decide +kernel
theorem dX12_count_25 : decode cX12_count 25 = .ok (.ireturn, 1) := by decide +kernel
theorem dX12_image_0 : decode cX12_image 0 = .ok (.aload_n 0, 1) := by decide +kernel
theorem dX12_image_1 : decode cX12_image 1 = .ok (.iconst 0, 1) := by decide +kernel
theorem dX12_image_2 : decode cX12_image 2 = .ok (.putfield 144, 3) := by decide +kernel
theorem dX12_image_5 : decode cX12_image 5 = .ok (.iload_n 1, 1) := by decide +kernel
theorem dX12_image_6 : decode cX12_image 6 = .ok (.iconst 0, 1) := by decide +kernel
theorem dX12_image_7 : decode cX12_image 7 = .ok (.iconst 2, 1) := by decide +kernel
theorem dX12_image_8 : decode cX12_image 8 = .ok (.invokestatic 156, 3) := by decide +kernel
theorem dX12_image_11 : decode cX12_image 11 = .ok (.ifCond .ne 5, 3) := by decide +kernel
theorem dX12_image_14 : decode cX12_image 14 = .ok (.iconst 0, 1) := by decide +kernel
theorem dX12_image_15 : decode cX12_image 15 = .ok (.ireturn, 1) := by decide +kernel
theorem dX12_image_16 : decode cX12_image 16 = .ok (.aload_n 0, 1) := by decide +kernel
theorem dX12_image_17 : decode cX12_image 17 = .ok (.iconst 0, 1) := by decide +kernel
theorem dX12_image_18 : decode cX12_image 18 = .ok (.iload_n 1, 1) := by decide +kernel
theorem dX12_image_19 : decode cX12_image 19 = .ok (.iconst 1, 1) := by decide +kernel
theorem dX12_image_20 : decode cX12_image 20 = .ok (.iadd, 1) := by decide +kernel
theorem dX12_image_21 : decode cX12_image 21 = .ok (.invokevirtual 655, 3) := by decide +kernel
theorem dX12_image_24 : decode cX12_image 24 = .ok (.aload_n 0, 1) := by decide +kernel
theorem dX12_image_25 : decode cX12_image 25 = .ok (.getfield 140, 3) := by decide +kernel
theorem dX12_image_28 : decode cX12_image 28 = .ok (.iload_n 1, 1) := by decide +kernel
theorem dX12_image_29 : decode cX12_image 29 = .ok (.iconst 1, 1) := by decide +kernel
theorem dX12_image_30 : decode cX12_image 30 = .ok (.bastore, 1) := by decide +kernel
theorem dX12_image_31 : decode cX12_image 31 = .ok (.iconst 1, 1) := by decide +kernel
theorem dX12_image_32 : decode cX12_image 32 = .ok (.ireturn, 1) := by decide +kernel
theorem dX12_again_0 : decode cX12_again 0 = .ok (.aload_n 0, 1) := by decide +kernel
theorem dX12_again_1 : decode cX12_again 1 = .ok (.iconst 0, 1) := by decide +kernel
theorem dX12_again_2 : decode cX12_again 2 = .ok (.putfield 144, 3) := by decide +kernel
theorem dX12_again_5 : decode cX12_again 5 = .ok (.iload_n 1, 1) := by decide +kernel
theorem dX12_again_6 : decode cX12_again 6 = .ok (.iconst 0, 1) := by decide +kernel
theorem dX12_again_7 : decode cX12_again 7 = .ok (.iconst 2, 1) := by decide +kernel
theorem dX12_again_8 : decode cX12_again 8 = .ok (.invokestatic 156, 3) := by decide +kernel
theorem dX12_again_11 : decode cX12_again 11 = .ok (.ifCond .eq 12, 3) := by decide +kernel
theorem dX12_again_14 : decode cX12_again 14 = .ok (.aload_n 0, 1) := by decide +kernel
theorem dX12_again_15 : decode cX12_again 15 = .ok (.getfield 140, 3) := by decide +kernel
theorem dX12_again_18 : decode cX12_again 18 = .ok (.iload_n 1, 1) := by decide +kernel
theorem dX12_again_19 : decode cX12_again 19 = .ok (.baload, 1) := by decide +kernel
theorem dX12_again_20 : decode cX12_again 20 = .ok (.ifCond .ne 5, 3) := by decide +kernel
theorem dX12_again_23 : decode cX12_again 23 = .ok (.iconst 0, 1) := by decide +kernel
theorem dX12_again_24 : decode cX12_again 24 = .ok (.ireturn, 1) := by decide +kernel
theorem dX12_again_25 : decode cX12_again 25 = .ok (.aload_n 0, 1) := by decide +kernel
theorem dX12_again_26 : decode cX12_again 26 = .ok (.iload_n 1, 1) := by decide +kernel
theorem dX12_again_27 : decode cX12_again 27 = .ok (.iconst 1, 1) := by decide +kernel
theorem dX12_again_28 : decode cX12_again 28 = .ok (.iadd, 1) := by decide +kernel
theorem dX12_again_29 : decode cX12_again 29 = .ok (.iconst 0, 1) := by decide +kernel
theorem dX12_again_30 : decode cX12_again 30 = .ok (.invokevirtual 655, 3) := by decide +kernel
theorem dX12_again_33 : decode cX12_again 33 = .ok (.iconst 1, 1) := by decide +kernel
theorem dX12_again_34 : decode cX12_again 34 = .ok (.ireturn, 1) := by decide +kernel
