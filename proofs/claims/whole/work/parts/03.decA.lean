/-! decode rows -/
theorem dX0_init_0 : decode cX0_init 0 = .ok (.aload_n 0, 1) := by decide +kernel
theorem dX0_init_1 : decode cX0_init 1 = .ok (.invokespecial 3, 3) := by decide +kernel
theorem dX0_init_4 : decode cX0_init 4 = .ok (.aload_n 0, 1) := by decide +kernel
theorem dX0_init_5 : decode cX0_init 5 = .ok (.bipush 30, 2) := by decide +kernel
theorem dX0_init_7 : decode cX0_init 7 = .ok (.anewarray 9, 3) := by decide +kernel
theorem dX0_init_10 : decode cX0_init 10 = .ok (.putfield 11, 3) := by decide +kernel
theorem dX0_init_13 : decode cX0_init 13 = .ok (.aload_n 0, 1) := by decide +kernel
theorem dX0_init_14 : decode cX0_init 14 = .ok (.bipush 7, 2) := by decide +kernel
theorem dX0_init_16 : decode cX0_init 16 = .ok (.bipush 10, 2) := by decide +kernel
theorem dX0_init_18 : decode cX0_init 18 = .ok (.multianewarray 17 2, 4) := by decide +kernel
theorem dX0_init_22 : decode cX0_init 22 = .ok (.putfield 19, 3) := by decide +kernel
theorem dX0_init_25 : decode cX0_init 25 = .ok (.aload_n 0, 1) := by decide +kernel
theorem dX0_init_26 : decode cX0_init 26 = .ok (.bipush 6, 2) := by decide +kernel
theorem dX0_init_28 : decode cX0_init 28 = .ok (.newarray .int, 2) := by decide +kernel
theorem dX0_init_30 : decode cX0_init 30 = .ok (.putfield 22, 3) := by decide +kernel
theorem dX0_init_33 : decode cX0_init 33 = .ok (.aload_n 0, 1) := by decide +kernel
theorem dX0_init_34 : decode cX0_init 34 = .ok (.bipush 6, 2) := by decide +kernel
theorem dX0_init_36 : decode cX0_init 36 = .ok (.newarray .int, 2) := by decide +kernel
theorem dX0_init_38 : decode cX0_init 38 = .ok (.putfield 26, 3) := by decide +kernel
theorem dX0_init_41 : decode cX0_init 41 = .ok (.return_, 1) := by decide +kernel
theorem dX0_gather_0 : decode cX0_gather 0 = .ok (.aload_n 0, 1) := by decide +kernel
theorem dX0_gather_1 : decode cX0_gather 1 = .ok (.iconst 0, 1) := by decide +kernel
theorem dX0_gather_2 : decode cX0_gather 2 = .ok (.putfield 29, 3) := by decide +kernel
theorem dX0_gather_5 : decode cX0_gather 5 = .ok (.iconst 0, 1) := by decide +kernel
theorem dX0_gather_6 : decode cX0_gather 6 = .ok (.istore_n 2, 1) := by decide +kernel
theorem dX0_gather_7 : decode cX0_gather 7 = .ok (.iload_n 2, 1) := by decide +kernel
theorem dX0_gather_8 : decode cX0_gather 8 = .ok (.aload_n 1, 1) := by decide +kernel
theorem dX0_gather_9 : decode cX0_gather 9 = .ok (.getfield 33, 3) := by decide +kernel
theorem dX0_gather_12 : decode cX0_gather 12 = .ok (.if_icmp .ge 46, 3) := by decide +kernel
theorem dX0_gather_15 : decode cX0_gather 15 = .ok (.aload_n 1, 1) := by decide +kernel
theorem dX0_gather_16 : decode cX0_gather 16 = .ok (.getfield 38, 3) := by decide +kernel
theorem dX0_gather_19 : decode cX0_gather 19 = .ok (.iload_n 2, 1) := by decide +kernel
theorem dX0_gather_20 : decode cX0_gather 20 = .ok (.aaload, 1) := by decide +kernel
theorem dX0_gather_21 : decode cX0_gather 21 = .ok (.getfield 41, 3) := by decide +kernel
theorem dX0_gather_24 : decode cX0_gather 24 = .ok (.ifCond .ne 28, 3) := by decide +kernel
theorem dX0_gather_27 : decode cX0_gather 27 = .ok (.aload_n 0, 1) := by decide +kernel
theorem dX0_gather_28 : decode cX0_gather 28 = .ok (.getfield 11, 3) := by decide +kernel
theorem dX0_gather_31 : decode cX0_gather 31 = .ok (.aload_n 0, 1) := by decide +kernel
theorem dX0_gather_32 : decode cX0_gather 32 = .ok (.getfield 29, 3) := by decide +kernel
theorem dX0_gather_35 : decode cX0_gather 35 = .ok (.aload_n 1, 1) := by decide +kernel
theorem dX0_gather_36 : decode cX0_gather 36 = .ok (.getfield 38, 3) := by decide +kernel
theorem dX0_gather_39 : decode cX0_gather 39 = .ok (.iload_n 2, 1) := by decide +kernel
theorem dX0_gather_40 : decode cX0_gather 40 = .ok (.aaload, 1) := by decide +kernel
theorem dX0_gather_41 : decode cX0_gather 41 = .ok (.aastore, 1) := by decide +kernel
theorem dX0_gather_42 : decode cX0_gather 42 = .ok (.aload_n 0, 1) := by decide +kernel
theorem dX0_gather_43 : decode cX0_gather 43 = .ok (.dup, 1) := by decide +kernel
theorem dX0_gather_44 : decode cX0_gather 44 = .ok (.getfield 29, 3) := by decide +kernel
theorem dX0_gather_47 : decode cX0_gather 47 = .ok (.iconst 1, 1) := by decide +kernel
theorem dX0_gather_48 : decode cX0_gather 48 = .ok (.iadd, 1) := by decide +kernel
theorem dX0_gather_49 : decode cX0_gather 49 = .ok (.putfield 29, 3) := by decide +kernel
theorem dX0_gather_52 : decode cX0_gather 52 = .ok (.iinc 2 1, 3) := by decide +kernel
theorem dX0_gather_55 : decode cX0_gather 55 = .ok (.goto (-48), 3) := by decide +kernel
theorem dX0_gather_58 : decode cX0_gather 58 = .ok (.return_, 1) := by decide +kernel
theorem dX0_hangs_0 : decode cX0_hangs 0 = .ok (.aload_n 0, 1) := by decide +kernel
theorem dX0_hangs_1 : decode cX0_hangs 1 = .ok (.getfield 11, 3) := by decide +kernel
theorem dX0_hangs_4 : decode cX0_hangs 4 = .ok (.iload_n 1, 1) := by decide +kernel
theorem dX0_hangs_5 : decode cX0_hangs 5 = .ok (.aaload, 1) := by decide +kernel
theorem dX0_hangs_6 : decode cX0_hangs 6 = .ok (.astore_n 2, 1) := by decide +kernel
theorem dX0_hangs_7 : decode cX0_hangs 7 = .ok (.iconst 0, 1) := by decide +kernel
theorem dX0_hangs_8 : decode cX0_hangs 8 = .ok (.istore_n 3, 1) := by decide +kernel
theorem dX0_hangs_9 : decode cX0_hangs 9 = .ok (.iconst 0, 1) := by decide +kernel
theorem dX0_hangs_10 : decode cX0_hangs 10 = .ok (.istore 4, 2) := by decide +kernel
theorem dX0_hangs_12 : decode cX0_hangs 12 = .ok (.iload 4, 2) := by decide +kernel
theorem dX0_hangs_14 : decode cX0_hangs 14 = .ok (.iload_n 1, 1) := by decide +kernel
theorem dX0_hangs_15 : decode cX0_hangs 15 = .ok (.if_icmp .ge 69, 3) := by decide +kernel
theorem dX0_hangs_18 : decode cX0_hangs 18 = .ok (.aload_n 0, 1) := by decide +kernel
theorem dX0_hangs_19 : decode cX0_hangs 19 = .ok (.getfield 11, 3) := by decide +kernel
theorem dX0_hangs_22 : decode cX0_hangs 22 = .ok (.iload 4, 2) := by decide +kernel
theorem dX0_hangs_24 : decode cX0_hangs 24 = .ok (.aaload, 1) := by decide +kernel
theorem dX0_hangs_25 : decode cX0_hangs 25 = .ok (.getfield 45, 3) := by decide +kernel
theorem dX0_hangs_28 : decode cX0_hangs 28 = .ok (.aload_n 2, 1) := by decide +kernel
theorem dX0_hangs_29 : decode cX0_hangs 29 = .ok (.getfield 48, 3) := by decide +kernel
theorem dX0_hangs_32 : decode cX0_hangs 32 = .ok (.aload_n 2, 1) := by decide +kernel
theorem dX0_hangs_33 : decode cX0_hangs 33 = .ok (.getfield 45, 3) := by decide +kernel
theorem dX0_hangs_36 : decode cX0_hangs 36 = .ok (.ior, 1) := by decide +kernel
theorem dX0_hangs_37 : decode cX0_hangs 37 = .ok (.iand, 1) := by decide +kernel
theorem dX0_hangs_38 : decode cX0_hangs 38 = .ok (.ifCond .eq 7, 3) := by decide +kernel
theorem dX0_hangs_41 : decode cX0_hangs 41 = .ok (.iconst 1, 1) := by decide +kernel
theorem dX0_hangs_42 : decode cX0_hangs 42 = .ok (.goto 4, 3) := by decide +kernel
theorem dX0_hangs_45 : decode cX0_hangs 45 = .ok (.iconst 0, 1) := by decide +kernel
theorem dX0_hangs_46 : decode cX0_hangs 46 = .ok (.istore 5, 2) := by decide +kernel
theorem dX0_hangs_48 : decode cX0_hangs 48 = .ok (.iload 5, 2) := by decide +kernel
theorem dX0_hangs_50 : decode cX0_hangs 50 = .ok (.ifCond .ne 21, 3) := by decide +kernel
theorem dX0_hangs_53 : decode cX0_hangs 53 = .ok (.aload_n 0, 1) := by decide +kernel
theorem dX0_hangs_54 : decode cX0_hangs 54 = .ok (.getfield 11, 3) := by decide +kernel
theorem dX0_hangs_57 : decode cX0_hangs 57 = .ok (.iload 4, 2) := by decide +kernel
theorem dX0_hangs_59 : decode cX0_hangs 59 = .ok (.aaload, 1) := by decide +kernel
theorem dX0_hangs_60 : decode cX0_hangs 60 = .ok (.getfield 51, 3) := by decide +kernel
theorem dX0_hangs_63 : decode cX0_hangs 63 = .ok (.aload_n 2, 1) := by decide +kernel
theorem dX0_hangs_64 : decode cX0_hangs 64 = .ok (.getfield 54, 3) := by decide +kernel
theorem dX0_hangs_67 : decode cX0_hangs 67 = .ok (.iand, 1) := by decide +kernel
theorem dX0_hangs_68 : decode cX0_hangs 68 = .ok (.ifCond .eq 10, 3) := by decide +kernel
theorem dX0_hangs_71 : decode cX0_hangs 71 = .ok (.iload_n 3, 1) := by decide +kernel
theorem dX0_hangs_72 : decode cX0_hangs 72 = .ok (.iconst 1, 1) := by decide +kernel
theorem dX0_hangs_73 : decode cX0_hangs 73 = .ok (.iload 4, 2) := by decide +kernel
theorem dX0_hangs_75 : decode cX0_hangs 75 = .ok (.ishl, 1) := by decide +kernel
theorem dX0_hangs_76 : decode cX0_hangs 76 = .ok (.ior, 1) := by decide +kernel
theorem dX0_hangs_77 : decode cX0_hangs 77 = .ok (.istore_n 3, 1) := by decide +kernel
theorem dX0_hangs_78 : decode cX0_hangs 78 = .ok (.iinc 4 1, 3) := by decide +kernel
theorem dX0_hangs_81 : decode cX0_hangs 81 = .ok (.goto (-69), 3) := by decide +kernel
theorem dX0_hangs_84 : decode cX0_hangs 84 = .ok (.iload_n 3, 1) := by decide +kernel
theorem dX0_hangs_85 : decode cX0_hangs 85 = .ok (.ireturn, 1) := by decide +kernel
theorem dX0_tryOrders_0 : decode cX0_tryOrders 0 = .ok (.aload_n 0, 1) := by decide +kernel
theorem dX0_tryOrders_1 : decode cX0_tryOrders 1 = .ok (.iconst 0, 1) := by decide +kernel
theorem dX0_tryOrders_2 : decode cX0_tryOrders 2 = .ok (.putfield 57, 3) := by decide +kernel
theorem dX0_tryOrders_5 : decode cX0_tryOrders 5 = .ok (.aload_n 1, 1) := by decide +kernel
theorem dX0_tryOrders_6 : decode cX0_tryOrders 6 = .ok (.getfield 60, 3) := by decide +kernel
theorem dX0_tryOrders_9 : decode cX0_tryOrders 9 = .ok (.getfield 64, 3) := by decide +kernel
theorem dX0_tryOrders_12 : decode cX0_tryOrders 12 = .ok (.aload_n 0, 1) := by decide +kernel
theorem dX0_tryOrders_13 : decode cX0_tryOrders 13 = .ok (.getfield 19, 3) := by decide +kernel
theorem dX0_tryOrders_16 : decode cX0_tryOrders 16 = .ok (.iconst 0, 1) := by decide +kernel
theorem dX0_tryOrders_17 : decode cX0_tryOrders 17 = .ok (.aaload, 1) := by decide +kernel
theorem dX0_tryOrders_18 : decode cX0_tryOrders 18 = .ok (.invokestatic 69, 3) := by decide +kernel
theorem dX0_tryOrders_21 : decode cX0_tryOrders 21 = .ok (.aload_n 0, 1) := by decide +kernel
theorem dX0_tryOrders_22 : decode cX0_tryOrders 22 = .ok (.aload_n 1, 1) := by decide +kernel
theorem dX0_tryOrders_23 : decode cX0_tryOrders 23 = .ok (.iconst 0, 1) := by decide +kernel
theorem dX0_tryOrders_24 : decode cX0_tryOrders 24 = .ok (.iconst 0, 1) := by decide +kernel
theorem dX0_tryOrders_25 : decode cX0_tryOrders 25 = .ok (.invokevirtual 73, 3) := by decide +kernel
theorem dX0_tryOrders_28 : decode cX0_tryOrders 28 = .ok (.return_, 1) := by decide +kernel
theorem dX0_extend_0 : decode cX0_extend 0 = .ok (.iload_n 2, 1) := by decide +kernel
theorem dX0_extend_1 : decode cX0_extend 1 = .ok (.aload_n 0, 1) := by decide +kernel
theorem dX0_extend_2 : decode cX0_extend 2 = .ok (.getfield 29, 3) := by decide +kernel
theorem dX0_extend_5 : decode cX0_extend 5 = .ok (.if_icmp .ge 9, 3) := by decide +kernel
theorem dX0_extend_8 : decode cX0_extend 8 = .ok (.iload_n 2, 1) := by decide +kernel
theorem dX0_extend_9 : decode cX0_extend 9 = .ok (.bipush 6, 2) := by decide +kernel
theorem dX0_extend_11 : decode cX0_extend 11 = .ok (.if_icmp .lt 18, 3) := by decide +kernel
theorem dX0_extend_14 : decode cX0_extend 14 = .ok (.aload_n 0, 1) := by decide +kernel
theorem dX0_extend_15 : decode cX0_extend 15 = .ok (.aload_n 0, 1) := by decide +kernel
theorem dX0_extend_16 : decode cX0_extend 16 = .ok (.getfield 19, 3) := by decide +kernel
theorem dX0_extend_19 : decode cX0_extend 19 = .ok (.iload_n 2, 1) := by decide +kernel
theorem dX0_extend_20 : decode cX0_extend 20 = .ok (.aaload, 1) := by decide +kernel
theorem dX0_extend_21 : decode cX0_extend 21 = .ok (.aload_n 1, 1) := by decide +kernel
theorem dX0_extend_22 : decode cX0_extend 22 = .ok (.getfield 77, 3) := by decide +kernel
theorem dX0_extend_25 : decode cX0_extend 25 = .ok (.invokevirtual 78, 3) := by decide +kernel
theorem dX0_extend_28 : decode cX0_extend 28 = .ok (.return_, 1) := by decide +kernel
theorem dX0_extend_29 : decode cX0_extend 29 = .ok (.iconst 0, 1) := by decide +kernel
theorem dX0_extend_30 : decode cX0_extend 30 = .ok (.istore 4, 2) := by decide +kernel
theorem dX0_extend_32 : decode cX0_extend 32 = .ok (.iload 4, 2) := by decide +kernel
theorem dX0_extend_34 : decode cX0_extend 34 = .ok (.aload_n 0, 1) := by decide +kernel
theorem dX0_extend_35 : decode cX0_extend 35 = .ok (.getfield 29, 3) := by decide +kernel
theorem dX0_extend_38 : decode cX0_extend 38 = .ok (.if_icmp .ge 83, 3) := by decide +kernel
theorem dX0_extend_41 : decode cX0_extend 41 = .ok (.iload_n 3, 1) := by decide +kernel
theorem dX0_extend_42 : decode cX0_extend 42 = .ok (.iload 4, 2) := by decide +kernel
theorem dX0_extend_44 : decode cX0_extend 44 = .ok (.invokestatic 81, 3) := by decide +kernel
theorem dX0_extend_47 : decode cX0_extend 47 = .ok (.ifCond .ne 68, 3) := by decide +kernel
theorem dX0_extend_50 : decode cX0_extend 50 = .ok (.aload_n 0, 1) := by decide +kernel
theorem dX0_extend_51 : decode cX0_extend 51 = .ok (.getfield 19, 3) := by decide +kernel
theorem dX0_extend_54 : decode cX0_extend 54 = .ok (.iload_n 2, 1) := by decide +kernel
theorem dX0_extend_55 : decode cX0_extend 55 = .ok (.aaload, 1) := by decide +kernel
theorem dX0_extend_56 : decode cX0_extend 56 = .ok (.aload_n 0, 1) := by decide +kernel
theorem dX0_extend_57 : decode cX0_extend 57 = .ok (.getfield 19, 3) := by decide +kernel
theorem dX0_extend_60 : decode cX0_extend 60 = .ok (.iload_n 2, 1) := by decide +kernel
theorem dX0_extend_61 : decode cX0_extend 61 = .ok (.iconst 1, 1) := by decide +kernel
theorem dX0_extend_62 : decode cX0_extend 62 = .ok (.iadd, 1) := by decide +kernel
theorem dX0_extend_63 : decode cX0_extend 63 = .ok (.aaload, 1) := by decide +kernel
theorem dX0_extend_64 : decode cX0_extend 64 = .ok (.invokestatic 69, 3) := by decide +kernel
theorem dX0_extend_67 : decode cX0_extend 67 = .ok (.aload_n 1, 1) := by decide +kernel
theorem dX0_extend_68 : decode cX0_extend 68 = .ok (.getfield 85, 3) := by decide +kernel
theorem dX0_extend_71 : decode cX0_extend 71 = .ok (.aload_n 0, 1) := by decide +kernel
theorem dX0_extend_72 : decode cX0_extend 72 = .ok (.getfield 11, 3) := by decide +kernel
theorem dX0_extend_75 : decode cX0_extend 75 = .ok (.iload 4, 2) := by decide +kernel
theorem dX0_extend_77 : decode cX0_extend 77 = .ok (.aaload, 1) := by decide +kernel
theorem dX0_extend_78 : decode cX0_extend 78 = .ok (.getfield 89, 3) := by decide +kernel
theorem dX0_extend_81 : decode cX0_extend 81 = .ok (.aload_n 0, 1) := by decide +kernel
theorem dX0_extend_82 : decode cX0_extend 82 = .ok (.getfield 19, 3) := by decide +kernel
theorem dX0_extend_85 : decode cX0_extend 85 = .ok (.iload_n 2, 1) := by decide +kernel
theorem dX0_extend_86 : decode cX0_extend 86 = .ok (.iconst 1, 1) := by decide +kernel
theorem dX0_extend_87 : decode cX0_extend 87 = .ok (.iadd, 1) := by decide +kernel
theorem dX0_extend_88 : decode cX0_extend 88 = .ok (.aaload, 1) := by decide +kernel
theorem dX0_extend_89 : decode cX0_extend 89 = .ok (.invokevirtual 92, 3) := by decide +kernel
theorem dX0_extend_92 : decode cX0_extend 92 = .ok (.pop, 1) := by decide +kernel
theorem dX0_extend_93 : decode cX0_extend 93 = .ok (.aload_n 0, 1) := by decide +kernel
theorem dX0_extend_94 : decode cX0_extend 94 = .ok (.getfield 22, 3) := by decide +kernel
theorem dX0_extend_97 : decode cX0_extend 97 = .ok (.iload_n 2, 1) := by decide +kernel
theorem dX0_extend_98 : decode cX0_extend 98 = .ok (.iload 4, 2) := by decide +kernel
theorem dX0_extend_100 : decode cX0_extend 100 = .ok (.iastore, 1) := by decide +kernel
theorem dX0_extend_101 : decode cX0_extend 101 = .ok (.aload_n 0, 1) := by decide +kernel
theorem dX0_extend_102 : decode cX0_extend 102 = .ok (.aload_n 1, 1) := by decide +kernel
theorem dX0_extend_103 : decode cX0_extend 103 = .ok (.iload_n 2, 1) := by decide +kernel
theorem dX0_extend_104 : decode cX0_extend 104 = .ok (.iconst 1, 1) := by decide +kernel
theorem dX0_extend_105 : decode cX0_extend 105 = .ok (.iadd, 1) := by decide +kernel
theorem dX0_extend_106 : decode cX0_extend 106 = .ok (.iload_n 3, 1) := by decide +kernel
theorem dX0_extend_107 : decode cX0_extend 107 = .ok (.iconst 1, 1) := by decide +kernel
theorem dX0_extend_108 : decode cX0_extend 108 = .ok (.iload 4, 2) := by decide +kernel
theorem dX0_extend_110 : decode cX0_extend 110 = .ok (.ishl, 1) := by decide +kernel
theorem dX0_extend_111 : decode cX0_extend 111 = .ok (.ior, 1) := by decide +kernel
theorem dX0_extend_112 : decode cX0_extend 112 = .ok (.invokevirtual 73, 3) := by decide +kernel
theorem dX0_extend_115 : decode cX0_extend 115 = .ok (.iinc 4 1, 3) := by decide +kernel
theorem dX0_extend_118 : decode cX0_extend 118 = .ok (.goto (-86), 3) := by decide +kernel
theorem dX0_extend_121 : decode cX0_extend 121 = .ok (.return_, 1) := by decide +kernel
theorem dX0_noteRow_0 : decode cX0_noteRow 0 = .ok (.aload_n 1, 1) := by decide +kernel
theorem dX0_noteRow_1 : decode cX0_noteRow 1 = .ok (.aload_n 2, 1) := by decide +kernel
theorem dX0_noteRow_2 : decode cX0_noteRow 2 = .ok (.invokestatic 98, 3) := by decide +kernel
theorem dX0_noteRow_5 : decode cX0_noteRow 5 = .ok (.ifCond .ne 4, 3) := by decide +kernel
theorem dX0_noteRow_8 : decode cX0_noteRow 8 = .ok (.return_, 1) := by decide +kernel
theorem dX0_noteRow_9 : decode cX0_noteRow 9 = .ok (.aload_n 0, 1) := by decide +kernel
theorem dX0_noteRow_10 : decode cX0_noteRow 10 = .ok (.getfield 57, 3) := by decide +kernel
theorem dX0_noteRow_13 : decode cX0_noteRow 13 = .ok (.ifCond .ne 18, 3) := by decide +kernel
theorem dX0_noteRow_16 : decode cX0_noteRow 16 = .ok (.aload_n 0, 1) := by decide +kernel
theorem dX0_noteRow_17 : decode cX0_noteRow 17 = .ok (.getfield 22, 3) := by decide +kernel
theorem dX0_noteRow_20 : decode cX0_noteRow 20 = .ok (.iconst 0, 1) := by decide +kernel
theorem dX0_noteRow_21 : decode cX0_noteRow 21 = .ok (.aload_n 0, 1) := by decide +kernel
theorem dX0_noteRow_22 : decode cX0_noteRow 22 = .ok (.getfield 26, 3) := by decide +kernel
theorem dX0_noteRow_25 : decode cX0_noteRow 25 = .ok (.iconst 0, 1) := by decide +kernel
theorem dX0_noteRow_26 : decode cX0_noteRow 26 = .ok (.bipush 6, 2) := by decide +kernel
theorem dX0_noteRow_28 : decode cX0_noteRow 28 = .ok (.invokestatic 102, 3) := by decide +kernel
theorem dX0_noteRow_31 : decode cX0_noteRow 31 = .ok (.aload_n 0, 1) := by decide +kernel
theorem dX0_noteRow_32 : decode cX0_noteRow 32 = .ok (.dup, 1) := by decide +kernel
theorem dX0_noteRow_33 : decode cX0_noteRow 33 = .ok (.getfield 57, 3) := by decide +kernel
theorem dX0_noteRow_36 : decode cX0_noteRow 36 = .ok (.iconst 1, 1) := by decide +kernel
theorem dX0_noteRow_37 : decode cX0_noteRow 37 = .ok (.iadd, 1) := by decide +kernel
theorem dX0_noteRow_38 : decode cX0_noteRow 38 = .ok (.putfield 57, 3) := by decide +kernel
theorem dX0_noteRow_41 : decode cX0_noteRow 41 = .ok (.return_, 1) := by decide +kernel
theorem dX1_init_0 : decode cX1_init 0 = .ok (.aload_n 0, 1) := by decide +kernel
theorem dX1_init_1 : decode cX1_init 1 = .ok (.invokespecial 3, 3) := by decide +kernel
theorem dX1_init_4 : decode cX1_init 4 = .ok (.aload_n 0, 1) := by decide +kernel
theorem dX1_init_5 : decode cX1_init 5 = .ok (.bipush 8, 2) := by decide +kernel
theorem dX1_init_7 : decode cX1_init 7 = .ok (.newarray .int, 2) := by decide +kernel
theorem dX1_init_9 : decode cX1_init 9 = .ok (.putfield 9, 3) := by decide +kernel
theorem dX1_init_12 : decode cX1_init 12 = .ok (.aload_n 0, 1) := by decide +kernel
theorem dX1_init_13 : decode cX1_init 13 = .ok (.bipush 8, 2) := by decide +kernel
theorem dX1_init_15 : decode cX1_init 15 = .ok (.newarray .int, 2) := by decide +kernel
theorem dX1_init_17 : decode cX1_init 17 = .ok (.putfield 15, 3) := by decide +kernel
theorem dX1_init_20 : decode cX1_init 20 = .ok (.return_, 1) := by decide +kernel
theorem dX1_take_0 : decode cX1_take 0 = .ok (.aload_n 0, 1) := by decide +kernel
theorem dX1_take_1 : decode cX1_take 1 = .ok (.getfield 18, 3) := by decide +kernel
theorem dX1_take_4 : decode cX1_take 4 = .ok (.bipush 8, 2) := by decide +kernel
theorem dX1_take_6 : decode cX1_take 6 = .ok (.if_icmp .ge 33, 3) := by decide +kernel
theorem dX1_take_9 : decode cX1_take 9 = .ok (.aload_n 0, 1) := by decide +kernel
theorem dX1_take_10 : decode cX1_take 10 = .ok (.getfield 9, 3) := by decide +kernel
theorem dX1_take_13 : decode cX1_take 13 = .ok (.aload_n 0, 1) := by decide +kernel
theorem dX1_take_14 : decode cX1_take 14 = .ok (.getfield 18, 3) := by decide +kernel
theorem dX1_take_17 : decode cX1_take 17 = .ok (.iload_n 1, 1) := by decide +kernel
theorem dX1_take_18 : decode cX1_take 18 = .ok (.iastore, 1) := by decide +kernel
theorem dX1_take_19 : decode cX1_take 19 = .ok (.aload_n 0, 1) := by decide +kernel
theorem dX1_take_20 : decode cX1_take 20 = .ok (.getfield 15, 3) := by decide +kernel
theorem dX1_take_23 : decode cX1_take 23 = .ok (.aload_n 0, 1) := by decide +kernel
theorem dX1_take_24 : decode cX1_take 24 = .ok (.getfield 18, 3) := by decide +kernel
theorem dX1_take_27 : decode cX1_take 27 = .ok (.iload_n 2, 1) := by decide +kernel
theorem dX1_take_28 : decode cX1_take 28 = .ok (.iastore, 1) := by decide +kernel
theorem dX1_take_29 : decode cX1_take 29 = .ok (.aload_n 0, 1) := by decide +kernel
theorem dX1_take_30 : decode cX1_take 30 = .ok (.dup, 1) := by decide +kernel
theorem dX1_take_31 : decode cX1_take 31 = .ok (.getfield 18, 3) := by decide +kernel
theorem dX1_take_34 : decode cX1_take 34 = .ok (.iconst 1, 1) := by decide +kernel
theorem dX1_take_35 : decode cX1_take 35 = .ok (.iadd, 1) := by decide +kernel
theorem dX1_take_36 : decode cX1_take 36 = .ok (.putfield 18, 3) := by decide +kernel
theorem dX1_take_39 : decode cX1_take 39 = .ok (.return_, 1) := by decide +kernel
theorem dX1_agrees_0 : decode cX1_agrees 0 = .ok (.iconst 0, 1) := by decide +kernel
theorem dX1_agrees_1 : decode cX1_agrees 1 = .ok (.istore_n 2, 1) := by decide +kernel
theorem dX1_agrees_2 : decode cX1_agrees 2 = .ok (.iload_n 2, 1) := by decide +kernel
theorem dX1_agrees_3 : decode cX1_agrees 3 = .ok (.aload_n 0, 1) := by decide +kernel
theorem dX1_agrees_4 : decode cX1_agrees 4 = .ok (.getfield 18, 3) := by decide +kernel
theorem dX1_agrees_7 : decode cX1_agrees 7 = .ok (.if_icmp .ge 28, 3) := by decide +kernel
theorem dX1_agrees_10 : decode cX1_agrees 10 = .ok (.aload_n 1, 1) := by decide +kernel
theorem dX1_agrees_11 : decode cX1_agrees 11 = .ok (.aload_n 0, 1) := by decide +kernel
theorem dX1_agrees_12 : decode cX1_agrees 12 = .ok (.getfield 9, 3) := by decide +kernel
theorem dX1_agrees_15 : decode cX1_agrees 15 = .ok (.iload_n 2, 1) := by decide +kernel
theorem dX1_agrees_16 : decode cX1_agrees 16 = .ok (.iaload, 1) := by decide +kernel
theorem dX1_agrees_17 : decode cX1_agrees 17 = .ok (.iaload, 1) := by decide +kernel
theorem dX1_agrees_18 : decode cX1_agrees 18 = .ok (.aload_n 0, 1) := by decide +kernel
theorem dX1_agrees_19 : decode cX1_agrees 19 = .ok (.getfield 15, 3) := by decide +kernel
theorem dX1_agrees_22 : decode cX1_agrees 22 = .ok (.iload_n 2, 1) := by decide +kernel
theorem dX1_agrees_23 : decode cX1_agrees 23 = .ok (.iaload, 1) := by decide +kernel
theorem dX1_agrees_24 : decode cX1_agrees 24 = .ok (.if_icmp .eq 5, 3) := by decide +kernel
theorem dX1_agrees_27 : decode cX1_agrees 27 = .ok (.iconst 0, 1) := by decide +kernel
theorem dX1_agrees_28 : decode cX1_agrees 28 = .ok (.ireturn, 1) := by decide +kernel
theorem dX1_agrees_29 : decode cX1_agrees 29 = .ok (.iinc 2 1, 3) := by decide +kernel
theorem dX1_agrees_32 : decode cX1_agrees 32 = .ok (.goto (-30), 3) := by decide +kernel
theorem dX1_agrees_35 : decode cX1_agrees 35 = .ok (.iconst 1, 1) := by decide +kernel
theorem dX1_agrees_36 : decode cX1_agrees 36 = .ok (.ireturn, 1) := by decide +kernel
theorem dX1_copyFrom_0 : decode cX1_copyFrom 0 = .ok (.aload_n 0, 1) := by decide +kernel
theorem dX1_copyFrom_1 : decode cX1_copyFrom 1 = .ok (.aload_n 1, 1) := by decide +kernel
theorem dX1_copyFrom_2 : decode cX1_copyFrom 2 = .ok (.getfield 18, 3) := by decide +kernel
theorem dX1_copyFrom_5 : decode cX1_copyFrom 5 = .ok (.putfield 18, 3) := by decide +kernel
theorem dX1_copyFrom_8 : decode cX1_copyFrom 8 = .ok (.aload_n 1, 1) := by decide +kernel
theorem dX1_copyFrom_9 : decode cX1_copyFrom 9 = .ok (.getfield 9, 3) := by decide +kernel
theorem dX1_copyFrom_12 : decode cX1_copyFrom 12 = .ok (.iconst 0, 1) := by decide +kernel
theorem dX1_copyFrom_13 : decode cX1_copyFrom 13 = .ok (.aload_n 0, 1) := by decide +kernel
theorem dX1_copyFrom_14 : decode cX1_copyFrom 14 = .ok (.getfield 9, 3) := by decide +kernel
theorem dX1_copyFrom_17 : decode cX1_copyFrom 17 = .ok (.iconst 0, 1) := by decide +kernel
theorem dX1_copyFrom_18 : decode cX1_copyFrom 18 = .ok (.bipush 8, 2) := by decide +kernel
theorem dX1_copyFrom_20 : decode cX1_copyFrom 20 = .ok (.invokestatic 22, 3) := by decide +kernel
theorem dX1_copyFrom_23 : decode cX1_copyFrom 23 = .ok (.aload_n 1, 1) := by decide +kernel
theorem dX1_copyFrom_24 : decode cX1_copyFrom 24 = .ok (.getfield 15, 3) := by decide +kernel
theorem dX1_copyFrom_27 : decode cX1_copyFrom 27 = .ok (.iconst 0, 1) := by decide +kernel
theorem dX1_copyFrom_28 : decode cX1_copyFrom 28 = .ok (.aload_n 0, 1) := by decide +kernel
theorem dX1_copyFrom_29 : decode cX1_copyFrom 29 = .ok (.getfield 15, 3) := by decide +kernel
theorem dX1_copyFrom_32 : decode cX1_copyFrom 32 = .ok (.iconst 0, 1) := by decide +kernel
theorem dX1_copyFrom_33 : decode cX1_copyFrom 33 = .ok (.bipush 8, 2) := by decide +kernel
theorem dX1_copyFrom_35 : decode cX1_copyFrom 35 = .ok (.invokestatic 22, 3) := by decide +kernel
theorem dX1_copyFrom_38 : decode cX1_copyFrom 38 = .ok (.return_, 1) := by decide +kernel
theorem dX2_init_0 : decode cX2_init 0 = .ok (.aload_n 0, 1) := by decide +kernel
theorem dX2_init_1 : decode cX2_init 1 = .ok (.invokespecial 3, 3) := by decide +kernel
theorem dX2_init_4 : decode cX2_init 4 = .ok (.aload_n 0, 1) := by decide +kernel
theorem dX2_init_5 : decode cX2_init 5 = .ok (.bipush 10, 2) := by decide +kernel
theorem dX2_init_7 : decode cX2_init 7 = .ok (.newarray .int, 2) := by decide +kernel
theorem dX2_init_9 : decode cX2_init 9 = .ok (.putfield 9, 3) := by decide +kernel
theorem dX2_init_12 : decode cX2_init 12 = .ok (.return_, 1) := by decide +kernel
theorem dX4_init_0 : decode cX4_init 0 = .ok (.aload_n 0, 1) := by decide +kernel
theorem dX4_init_1 : decode cX4_init 1 = .ok (.invokespecial 3, 3) := by decide +kernel
theorem dX4_init_4 : decode cX4_init 4 = .ok (.aload_n 0, 1) := by decide +kernel
theorem dX4_init_5 : decode cX4_init 5 = .ok (.bipush 40, 2) := by decide +kernel
theorem dX4_init_7 : decode cX4_init 7 = .ok (.newarray .int, 2) := by decide +kernel
theorem dX4_init_9 : decode cX4_init 9 = .ok (.putfield 9, 3) := by decide +kernel
theorem dX4_init_12 : decode cX4_init 12 = .ok (.aload_n 0, 1) := by decide +kernel
theorem dX4_init_13 : decode cX4_init 13 = .ok (.bipush 40, 2) := by decide +kernel
theorem dX4_init_15 : decode cX4_init 15 = .ok (.newarray .int, 2) := by decide +kernel
theorem dX4_init_17 : decode cX4_init 17 = .ok (.putfield 15, 3) := by decide +kernel
theorem dX4_init_20 : decode cX4_init 20 = .ok (.aload_n 0, 1) := by decide +kernel
theorem dX4_init_21 : decode cX4_init 21 = .ok (.bipush 40, 2) := by decide +kernel
theorem dX4_init_23 : decode cX4_init 23 = .ok (.newarray .int, 2) := by decide +kernel
theorem dX4_init_25 : decode cX4_init 25 = .ok (.putfield 18, 3) := by decide +kernel
theorem dX4_init_28 : decode cX4_init 28 = .ok (.return_, 1) := by decide +kernel
theorem dX4_take_0 : decode cX4_take 0 = .ok (.aload_n 0, 1) := by decide +kernel
theorem dX4_take_1 : decode cX4_take 1 = .ok (.getfield 21, 3) := by decide +kernel
theorem dX4_take_4 : decode cX4_take 4 = .ok (.bipush 40, 2) := by decide +kernel
theorem dX4_take_6 : decode cX4_take 6 = .ok (.if_icmp .ge 46, 3) := by decide +kernel
theorem dX4_take_9 : decode cX4_take 9 = .ok (.aload_n 0, 1) := by decide +kernel
theorem dX4_take_10 : decode cX4_take 10 = .ok (.getfield 9, 3) := by decide +kernel
theorem dX4_take_13 : decode cX4_take 13 = .ok (.aload_n 0, 1) := by decide +kernel
theorem dX4_take_14 : decode cX4_take 14 = .ok (.getfield 21, 3) := by decide +kernel
theorem dX4_take_17 : decode cX4_take 17 = .ok (.iload_n 1, 1) := by decide +kernel
theorem dX4_take_18 : decode cX4_take 18 = .ok (.bipush 10, 2) := by decide +kernel
theorem dX4_take_20 : decode cX4_take 20 = .ok (.isub, 1) := by decide +kernel
theorem dX4_take_21 : decode cX4_take 21 = .ok (.iastore, 1) := by decide +kernel
theorem dX4_take_22 : decode cX4_take 22 = .ok (.aload_n 0, 1) := by decide +kernel
theorem dX4_take_23 : decode cX4_take 23 = .ok (.getfield 15, 3) := by decide +kernel
theorem dX4_take_26 : decode cX4_take 26 = .ok (.aload_n 0, 1) := by decide +kernel
theorem dX4_take_27 : decode cX4_take 27 = .ok (.getfield 21, 3) := by decide +kernel
theorem dX4_take_30 : decode cX4_take 30 = .ok (.iload_n 2, 1) := by decide +kernel
theorem dX4_take_31 : decode cX4_take 31 = .ok (.iastore, 1) := by decide +kernel
theorem dX4_take_32 : decode cX4_take 32 = .ok (.aload_n 0, 1) := by decide +kernel
theorem dX4_take_33 : decode cX4_take 33 = .ok (.getfield 18, 3) := by decide +kernel
theorem dX4_take_36 : decode cX4_take 36 = .ok (.aload_n 0, 1) := by decide +kernel
theorem dX4_take_37 : decode cX4_take 37 = .ok (.getfield 21, 3) := by decide +kernel
theorem dX4_take_40 : decode cX4_take 40 = .ok (.iload_n 3, 1) := by decide +kernel
theorem dX4_take_41 : decode cX4_take 41 = .ok (.iastore, 1) := by decide +kernel
theorem dX4_take_42 : decode cX4_take 42 = .ok (.aload_n 0, 1) := by decide +kernel
theorem dX4_take_43 : decode cX4_take 43 = .ok (.dup, 1) := by decide +kernel
theorem dX4_take_44 : decode cX4_take 44 = .ok (.getfield 21, 3) := by decide +kernel
theorem dX4_take_47 : decode cX4_take 47 = .ok (.iconst 1, 1) := by decide +kernel
theorem dX4_take_48 : decode cX4_take 48 = .ok (.iadd, 1) := by decide +kernel
theorem dX4_take_49 : decode cX4_take 49 = .ok (.putfield 21, 3) := by decide +kernel
theorem dX4_take_52 : decode cX4_take 52 = .ok (.return_, 1) := by decide +kernel
theorem dX4_copyFrom_0 : decode cX4_copyFrom 0 = .ok (.aload_n 0, 1) := by decide +kernel
theorem dX4_copyFrom_1 : decode cX4_copyFrom 1 = .ok (.aload_n 1, 1) := by decide +kernel
theorem dX4_copyFrom_2 : decode cX4_copyFrom 2 = .ok (.getfield 21, 3) := by decide +kernel
theorem dX4_copyFrom_5 : decode cX4_copyFrom 5 = .ok (.putfield 21, 3) := by decide +kernel
theorem dX4_copyFrom_8 : decode cX4_copyFrom 8 = .ok (.aload_n 1, 1) := by decide +kernel
theorem dX4_copyFrom_9 : decode cX4_copyFrom 9 = .ok (.getfield 9, 3) := by decide +kernel
theorem dX4_copyFrom_12 : decode cX4_copyFrom 12 = .ok (.iconst 0, 1) := by decide +kernel
theorem dX4_copyFrom_13 : decode cX4_copyFrom 13 = .ok (.aload_n 0, 1) := by decide +kernel
theorem dX4_copyFrom_14 : decode cX4_copyFrom 14 = .ok (.getfield 9, 3) := by decide +kernel
theorem dX4_copyFrom_17 : decode cX4_copyFrom 17 = .ok (.iconst 0, 1) := by decide +kernel
theorem dX4_copyFrom_18 : decode cX4_copyFrom 18 = .ok (.bipush 40, 2) := by decide +kernel
theorem dX4_copyFrom_20 : decode cX4_copyFrom 20 = .ok (.invokestatic 25, 3) := by decide +kernel
theorem dX4_copyFrom_23 : decode cX4_copyFrom 23 = .ok (.aload_n 1, 1) := by decide +kernel
theorem dX4_copyFrom_24 : decode cX4_copyFrom 24 = .ok (.getfield 15, 3) := by decide +kernel
theorem dX4_copyFrom_27 : decode cX4_copyFrom 27 = .ok (.iconst 0, 1) := by decide +kernel
theorem dX4_copyFrom_28 : decode cX4_copyFrom 28 = .ok (.aload_n 0, 1) := by decide +kernel
theorem dX4_copyFrom_29 : decode cX4_copyFrom 29 = .ok (.getfield 15, 3) := by decide +kernel
theorem dX4_copyFrom_32 : decode cX4_copyFrom 32 = .ok (.iconst 0, 1) := by decide +kernel
theorem dX4_copyFrom_33 : decode cX4_copyFrom 33 = .ok (.bipush 40, 2) := by decide +kernel
theorem dX4_copyFrom_35 : decode cX4_copyFrom 35 = .ok (.invokestatic 25, 3) := by decide +kernel
theorem dX4_copyFrom_38 : decode cX4_copyFrom 38 = .ok (.aload_n 1, 1) := by decide +kernel
theorem dX4_copyFrom_39 : decode cX4_copyFrom 39 = .ok (.getfield 18, 3) := by decide +kernel
theorem dX4_copyFrom_42 : decode cX4_copyFrom 42 = .ok (.iconst 0, 1) := by decide +kernel
theorem dX4_copyFrom_43 : decode cX4_copyFrom 43 = .ok (.aload_n 0, 1) := by decide +kernel
theorem dX4_copyFrom_44 : decode cX4_copyFrom 44 = .ok (.getfield 18, 3) := by decide +kernel
theorem dX4_copyFrom_47 : decode cX4_copyFrom 47 = .ok (.iconst 0, 1) := by decide +kernel
theorem dX4_copyFrom_48 : decode cX4_copyFrom 48 = .ok (.bipush 40, 2) := by decide +kernel
theorem dX4_copyFrom_50 : decode cX4_copyFrom 50 = .ok (.invokestatic 25, 3) := by decide +kernel
theorem dX4_copyFrom_53 : decode cX4_copyFrom 53 = .ok (.return_, 1) := by decide +kernel
theorem dX6_init_0 : decode cX6_init 0 = .ok (.aload_n 0, 1) := by decide +kernel
theorem dX6_init_1 : decode cX6_init 1 = .ok (.invokespecial 3, 3) := by decide +kernel
theorem dX6_init_4 : decode cX6_init 4 = .ok (.aload_n 0, 1) := by decide +kernel
theorem dX6_init_5 : decode cX6_init 5 = .ok (.bipush 16, 2) := by decide +kernel
theorem dX6_init_7 : decode cX6_init 7 = .ok (.newarray .int, 2) := by decide +kernel
theorem dX6_init_9 : decode cX6_init 9 = .ok (.putfield 9, 3) := by decide +kernel
theorem dX6_init_12 : decode cX6_init 12 = .ok (.aload_n 0, 1) := by decide +kernel
theorem dX6_init_13 : decode cX6_init 13 = .ok (.bipush 16, 2) := by decide +kernel
theorem dX6_init_15 : decode cX6_init 15 = .ok (.bipush 10, 2) := by decide +kernel
theorem dX6_init_17 : decode cX6_init 17 = .ok (.multianewarray 15 2, 4) := by decide +kernel
theorem dX6_init_21 : decode cX6_init 21 = .ok (.putfield 17, 3) := by decide +kernel
theorem dX6_init_24 : decode cX6_init 24 = .ok (.aload_n 0, 1) := by decide +kernel
theorem dX6_init_25 : decode cX6_init 25 = .ok (.bipush 10, 2) := by decide +kernel
theorem dX6_init_27 : decode cX6_init 27 = .ok (.newarray .int, 2) := by decide +kernel
theorem dX6_init_29 : decode cX6_init 29 = .ok (.putfield 20, 3) := by decide +kernel
theorem dX6_init_32 : decode cX6_init 32 = .ok (.return_, 1) := by decide +kernel
theorem dX6_gather_0 : decode cX6_gather 0 = .ok (.aload_n 0, 1) := by decide +kernel
theorem dX6_gather_1 : decode cX6_gather 1 = .ok (.iconst 0, 1) := by decide +kernel
theorem dX6_gather_2 : decode cX6_gather 2 = .ok (.putfield 23, 3) := by decide +kernel
theorem dX6_gather_5 : decode cX6_gather 5 = .ok (.iconst 0, 1) := by decide +kernel
theorem dX6_gather_6 : decode cX6_gather 6 = .ok (.istore_n 3, 1) := by decide +kernel
theorem dX6_gather_7 : decode cX6_gather 7 = .ok (.iload_n 3, 1) := by decide +kernel
theorem dX6_gather_8 : decode cX6_gather 8 = .ok (.iconst 1, 1) := by decide +kernel
theorem dX6_gather_9 : decode cX6_gather 9 = .ok (.aload_n 1, 1) := by decide +kernel
theorem dX6_gather_10 : decode cX6_gather 10 = .ok (.getfield 27, 3) := by decide +kernel
theorem dX6_gather_13 : decode cX6_gather 13 = .ok (.ishl, 1) := by decide +kernel
theorem dX6_gather_14 : decode cX6_gather 14 = .ok (.if_icmp .ge 72, 3) := by decide +kernel
theorem dX6_gather_17 : decode cX6_gather 17 = .ok (.aload_n 0, 1) := by decide +kernel
theorem dX6_gather_18 : decode cX6_gather 18 = .ok (.getfield 23, 3) := by decide +kernel
theorem dX6_gather_21 : decode cX6_gather 21 = .ok (.bipush 16, 2) := by decide +kernel
theorem dX6_gather_23 : decode cX6_gather 23 = .ok (.if_icmp .ge 63, 3) := by decide +kernel
theorem dX6_gather_26 : decode cX6_gather 26 = .ok (.aload_n 1, 1) := by decide +kernel
theorem dX6_gather_27 : decode cX6_gather 27 = .ok (.iload_n 3, 1) := by decide +kernel
theorem dX6_gather_28 : decode cX6_gather 28 = .ok (.aload_n 0, 1) := by decide +kernel
theorem dX6_gather_29 : decode cX6_gather 29 = .ok (.getfield 17, 3) := by decide +kernel
theorem dX6_gather_32 : decode cX6_gather 32 = .ok (.aload_n 0, 1) := by decide +kernel
theorem dX6_gather_33 : decode cX6_gather 33 = .ok (.getfield 23, 3) := by decide +kernel
theorem dX6_gather_36 : decode cX6_gather 36 = .ok (.aaload, 1) := by decide +kernel
theorem dX6_gather_37 : decode cX6_gather 37 = .ok (.aload_n 0, 1) := by decide +kernel
theorem dX6_gather_38 : decode cX6_gather 38 = .ok (.getfield 20, 3) := by decide +kernel
theorem dX6_gather_41 : decode cX6_gather 41 = .ok (.invokevirtual 32, 3) := by decide +kernel
theorem dX6_gather_44 : decode cX6_gather 44 = .ok (.aload_n 2, 1) := by decide +kernel
theorem dX6_gather_45 : decode cX6_gather 45 = .ok (.aload_n 0, 1) := by decide +kernel
theorem dX6_gather_46 : decode cX6_gather 46 = .ok (.getfield 17, 3) := by decide +kernel
theorem dX6_gather_49 : decode cX6_gather 49 = .ok (.aload_n 0, 1) := by decide +kernel
theorem dX6_gather_50 : decode cX6_gather 50 = .ok (.getfield 23, 3) := by decide +kernel
theorem dX6_gather_53 : decode cX6_gather 53 = .ok (.aaload, 1) := by decide +kernel
theorem dX6_gather_54 : decode cX6_gather 54 = .ok (.invokevirtual 36, 3) := by decide +kernel
theorem dX6_gather_57 : decode cX6_gather 57 = .ok (.ifCond .eq 23, 3) := by decide +kernel
theorem dX6_gather_60 : decode cX6_gather 60 = .ok (.aload_n 0, 1) := by decide +kernel
theorem dX6_gather_61 : decode cX6_gather 61 = .ok (.getfield 9, 3) := by decide +kernel
theorem dX6_gather_64 : decode cX6_gather 64 = .ok (.aload_n 0, 1) := by decide +kernel
theorem dX6_gather_65 : decode cX6_gather 65 = .ok (.getfield 23, 3) := by decide +kernel
theorem dX6_gather_68 : decode cX6_gather 68 = .ok (.iload_n 3, 1) := by decide +kernel
theorem dX6_gather_69 : decode cX6_gather 69 = .ok (.iastore, 1) := by decide +kernel
theorem dX6_gather_70 : decode cX6_gather 70 = .ok (.aload_n 0, 1) := by decide +kernel
theorem dX6_gather_71 : decode cX6_gather 71 = .ok (.dup, 1) := by decide +kernel
theorem dX6_gather_72 : decode cX6_gather 72 = .ok (.getfield 23, 3) := by decide +kernel
theorem dX6_gather_75 : decode cX6_gather 75 = .ok (.iconst 1, 1) := by decide +kernel
theorem dX6_gather_76 : decode cX6_gather 76 = .ok (.iadd, 1) := by decide +kernel
theorem dX6_gather_77 : decode cX6_gather 77 = .ok (.putfield 23, 3) := by decide +kernel
theorem dX6_gather_80 : decode cX6_gather 80 = .ok (.iinc 3 1, 3) := by decide +kernel
theorem dX6_gather_83 : decode cX6_gather 83 = .ok (.goto (-76), 3) := by decide +kernel
theorem dX6_gather_86 : decode cX6_gather 86 = .ok (.return_, 1) := by decide +kernel
theorem dX6_bestQuestion_0 : decode cX6_bestQuestion 0 = .ok (.iconst (-1), 1) := by decide +kernel
theorem dX6_bestQuestion_1 : decode cX6_bestQuestion 1 = .ok (.istore_n 1, 1) := by decide +kernel
theorem dX6_bestQuestion_2 : decode cX6_bestQuestion 2 = .ok (.bipush 17, 2) := by decide +kernel
theorem dX6_bestQuestion_4 : decode cX6_bestQuestion 4 = .ok (.istore_n 2, 1) := by decide +kernel
theorem dX6_bestQuestion_5 : decode cX6_bestQuestion 5 = .ok (.iconst 0, 1) := by decide +kernel
theorem dX6_bestQuestion_6 : decode cX6_bestQuestion 6 = .ok (.istore_n 3, 1) := by decide +kernel
theorem dX6_bestQuestion_7 : decode cX6_bestQuestion 7 = .ok (.iload_n 3, 1) := by decide +kernel
theorem dX6_bestQuestion_8 : decode cX6_bestQuestion 8 = .ok (.bipush 10, 2) := by decide +kernel
theorem dX6_bestQuestion_10 : decode cX6_bestQuestion 10 = .ok (.if_icmp .ge 34, 3) := by decide +kernel
theorem dX6_bestQuestion_13 : decode cX6_bestQuestion 13 = .ok (.aload_n 0, 1) := by decide +kernel
theorem dX6_bestQuestion_14 : decode cX6_bestQuestion 14 = .ok (.getfield 23, 3) := by decide +kernel
theorem dX6_bestQuestion_17 : decode cX6_bestQuestion 17 = .ok (.ifCond .le 27, 3) := by decide +kernel
theorem dX6_bestQuestion_20 : decode cX6_bestQuestion 20 = .ok (.aload_n 0, 1) := by decide +kernel
theorem dX6_bestQuestion_21 : decode cX6_bestQuestion 21 = .ok (.iload_n 3, 1) := by decide +kernel
theorem dX6_bestQuestion_22 : decode cX6_bestQuestion 22 = .ok (.invokevirtual 42, 3) := by decide +kernel
theorem dX6_bestQuestion_25 : decode cX6_bestQuestion 25 = .ok (.istore 4, 2) := by decide +kernel
theorem dX6_bestQuestion_27 : decode cX6_bestQuestion 27 = .ok (.iload 4, 2) := by decide +kernel
theorem dX6_bestQuestion_29 : decode cX6_bestQuestion 29 = .ok (.iload_n 2, 1) := by decide +kernel
theorem dX6_bestQuestion_30 : decode cX6_bestQuestion 30 = .ok (.if_icmp .ge 8, 3) := by decide +kernel
theorem dX6_bestQuestion_33 : decode cX6_bestQuestion 33 = .ok (.iload 4, 2) := by decide +kernel
theorem dX6_bestQuestion_35 : decode cX6_bestQuestion 35 = .ok (.istore_n 2, 1) := by decide +kernel
theorem dX6_bestQuestion_36 : decode cX6_bestQuestion 36 = .ok (.iload_n 3, 1) := by decide +kernel
theorem dX6_bestQuestion_37 : decode cX6_bestQuestion 37 = .ok (.istore_n 1, 1) := by decide +kernel
theorem dX6_bestQuestion_38 : decode cX6_bestQuestion 38 = .ok (.iinc 3 1, 3) := by decide +kernel
theorem dX6_bestQuestion_41 : decode cX6_bestQuestion 41 = .ok (.goto (-34), 3) := by decide +kernel
theorem dX6_bestQuestion_44 : decode cX6_bestQuestion 44 = .ok (.iload_n 1, 1) := by decide +kernel
theorem dX6_bestQuestion_45 : decode cX6_bestQuestion 45 = .ok (.ireturn, 1) := by decide +kernel
theorem dX6_greatestShare_0 : decode cX6_greatestShare 0 = .ok (.iconst 0, 1) := by decide +kernel
theorem dX6_greatestShare_1 : decode cX6_greatestShare 1 = .ok (.istore_n 2, 1) := by decide +kernel
theorem dX6_greatestShare_2 : decode cX6_greatestShare 2 = .ok (.iconst 0, 1) := by decide +kernel
theorem dX6_greatestShare_3 : decode cX6_greatestShare 3 = .ok (.istore_n 3, 1) := by decide +kernel
theorem dX6_greatestShare_4 : decode cX6_greatestShare 4 = .ok (.iload_n 3, 1) := by decide +kernel
theorem dX6_greatestShare_5 : decode cX6_greatestShare 5 = .ok (.aload_n 0, 1) := by decide +kernel
theorem dX6_greatestShare_6 : decode cX6_greatestShare 6 = .ok (.getfield 23, 3) := by decide +kernel
theorem dX6_greatestShare_9 : decode cX6_greatestShare 9 = .ok (.if_icmp .ge 60, 3) := by decide +kernel
theorem dX6_greatestShare_12 : decode cX6_greatestShare 12 = .ok (.iconst 0, 1) := by decide +kernel
theorem dX6_greatestShare_13 : decode cX6_greatestShare 13 = .ok (.istore 4, 2) := by decide +kernel
theorem dX6_greatestShare_15 : decode cX6_greatestShare 15 = .ok (.iconst 0, 1) := by decide +kernel
theorem dX6_greatestShare_16 : decode cX6_greatestShare 16 = .ok (.istore 5, 2) := by decide +kernel
theorem dX6_greatestShare_18 : decode cX6_greatestShare 18 = .ok (.iload 5, 2) := by decide +kernel
theorem dX6_greatestShare_20 : decode cX6_greatestShare 20 = .ok (.aload_n 0, 1) := by decide +kernel
theorem dX6_greatestShare_21 : decode cX6_greatestShare 21 = .ok (.getfield 23, 3) := by decide +kernel
theorem dX6_greatestShare_24 : decode cX6_greatestShare 24 = .ok (.if_icmp .ge 32, 3) := by decide +kernel
theorem dX6_greatestShare_27 : decode cX6_greatestShare 27 = .ok (.aload_n 0, 1) := by decide +kernel
theorem dX6_greatestShare_28 : decode cX6_greatestShare 28 = .ok (.getfield 17, 3) := by decide +kernel
theorem dX6_greatestShare_31 : decode cX6_greatestShare 31 = .ok (.iload_n 3, 1) := by decide +kernel
theorem dX6_greatestShare_32 : decode cX6_greatestShare 32 = .ok (.aaload, 1) := by decide +kernel
theorem dX6_greatestShare_33 : decode cX6_greatestShare 33 = .ok (.iload_n 1, 1) := by decide +kernel
theorem dX6_greatestShare_34 : decode cX6_greatestShare 34 = .ok (.iaload, 1) := by decide +kernel
theorem dX6_greatestShare_35 : decode cX6_greatestShare 35 = .ok (.aload_n 0, 1) := by decide +kernel
theorem dX6_greatestShare_36 : decode cX6_greatestShare 36 = .ok (.getfield 17, 3) := by decide +kernel
theorem dX6_greatestShare_39 : decode cX6_greatestShare 39 = .ok (.iload 5, 2) := by decide +kernel
theorem dX6_greatestShare_41 : decode cX6_greatestShare 41 = .ok (.aaload, 1) := by decide +kernel
theorem dX6_greatestShare_42 : decode cX6_greatestShare 42 = .ok (.iload_n 1, 1) := by decide +kernel
theorem dX6_greatestShare_43 : decode cX6_greatestShare 43 = .ok (.iaload, 1) := by decide +kernel
theorem dX6_greatestShare_44 : decode cX6_greatestShare 44 = .ok (.if_icmp .ne 6, 3) := by decide +kernel
theorem dX6_greatestShare_47 : decode cX6_greatestShare 47 = .ok (.iinc 4 1, 3) := by decide +kernel
theorem dX6_greatestShare_50 : decode cX6_greatestShare 50 = .ok (.iinc 5 1, 3) := by decide +kernel
theorem dX6_greatestShare_53 : decode cX6_greatestShare 53 = .ok (.goto (-35), 3) := by decide +kernel
theorem dX6_greatestShare_56 : decode cX6_greatestShare 56 = .ok (.iload_n 2, 1) := by decide +kernel
theorem dX6_greatestShare_57 : decode cX6_greatestShare 57 = .ok (.iload 4, 2) := by decide +kernel
theorem dX6_greatestShare_59 : decode cX6_greatestShare 59 = .ok (.invokestatic 46, 3) := by decide +kernel
theorem dX6_greatestShare_62 : decode cX6_greatestShare 62 = .ok (.istore_n 2, 1) := by decide +kernel
theorem dX6_greatestShare_63 : decode cX6_greatestShare 63 = .ok (.iinc 3 1, 3) := by decide +kernel
theorem dX6_greatestShare_66 : decode cX6_greatestShare 66 = .ok (.goto (-62), 3) := by decide +kernel
theorem dX6_greatestShare_69 : decode cX6_greatestShare 69 = .ok (.iload_n 2, 1) := by decide +kernel
theorem dX6_greatestShare_70 : decode cX6_greatestShare 70 = .ok (.ireturn, 1) := by decide +kernel
theorem dX6_fewest_0 : decode cX6_fewest 0 = .ok (.iconst (-1), 1) := by decide +kernel
theorem dX6_fewest_1 : decode cX6_fewest 1 = .ok (.istore_n 1, 1) := by decide +kernel
theorem dX6_fewest_2 : decode cX6_fewest 2 = .ok (.iconst 0, 1) := by decide +kernel
theorem dX6_fewest_3 : decode cX6_fewest 3 = .ok (.istore_n 2, 1) := by decide +kernel
theorem dX6_fewest_4 : decode cX6_fewest 4 = .ok (.iload_n 2, 1) := by decide +kernel
theorem dX6_fewest_5 : decode cX6_fewest 5 = .ok (.aload_n 0, 1) := by decide +kernel
theorem dX6_fewest_6 : decode cX6_fewest 6 = .ok (.getfield 23, 3) := by decide +kernel
theorem dX6_fewest_9 : decode cX6_fewest 9 = .ok (.if_icmp .ge 31, 3) := by decide +kernel
theorem dX6_fewest_12 : decode cX6_fewest 12 = .ok (.aload_n 0, 1) := by decide +kernel
theorem dX6_fewest_13 : decode cX6_fewest 13 = .ok (.getfield 9, 3) := by decide +kernel
theorem dX6_fewest_16 : decode cX6_fewest 16 = .ok (.iload_n 2, 1) := by decide +kernel
theorem dX6_fewest_17 : decode cX6_fewest 17 = .ok (.iaload, 1) := by decide +kernel
theorem dX6_fewest_18 : decode cX6_fewest 18 = .ok (.invokestatic 52, 3) := by decide +kernel
theorem dX6_fewest_21 : decode cX6_fewest 21 = .ok (.istore_n 3, 1) := by decide +kernel
theorem dX6_fewest_22 : decode cX6_fewest 22 = .ok (.iload_n 1, 1) := by decide +kernel
theorem dX6_fewest_23 : decode cX6_fewest 23 = .ok (.iconst (-1), 1) := by decide +kernel
theorem dX6_fewest_24 : decode cX6_fewest 24 = .ok (.if_icmp .eq 8, 3) := by decide +kernel
theorem dX6_fewest_27 : decode cX6_fewest 27 = .ok (.iload_n 3, 1) := by decide +kernel
theorem dX6_fewest_28 : decode cX6_fewest 28 = .ok (.iload_n 1, 1) := by decide +kernel
theorem dX6_fewest_29 : decode cX6_fewest 29 = .ok (.if_icmp .ge 5, 3) := by decide +kernel
theorem dX6_fewest_32 : decode cX6_fewest 32 = .ok (.iload_n 3, 1) := by decide +kernel
theorem dX6_fewest_33 : decode cX6_fewest 33 = .ok (.istore_n 1, 1) := by decide +kernel
theorem dX6_fewest_34 : decode cX6_fewest 34 = .ok (.iinc 2 1, 3) := by decide +kernel
theorem dX6_fewest_37 : decode cX6_fewest 37 = .ok (.goto (-33), 3) := by decide +kernel
theorem dX6_fewest_40 : decode cX6_fewest 40 = .ok (.iload_n 1, 1) := by decide +kernel
theorem dX6_fewest_41 : decode cX6_fewest 41 = .ok (.ireturn, 1) := by decide +kernel
theorem dX6_sure_0 : decode cX6_sure 0 = .ok (.iconst 0, 1) := by decide +kernel
theorem dX6_sure_1 : decode cX6_sure 1 = .ok (.istore_n 2, 1) := by decide +kernel
theorem dX6_sure_2 : decode cX6_sure 2 = .ok (.iconst 0, 1) := by decide +kernel
theorem dX6_sure_3 : decode cX6_sure 3 = .ok (.istore_n 3, 1) := by decide +kernel
theorem dX6_sure_4 : decode cX6_sure 4 = .ok (.iload_n 3, 1) := by decide +kernel
theorem dX6_sure_5 : decode cX6_sure 5 = .ok (.aload_n 0, 1) := by decide +kernel
theorem dX6_sure_6 : decode cX6_sure 6 = .ok (.getfield 23, 3) := by decide +kernel
theorem dX6_sure_9 : decode cX6_sure 9 = .ok (.if_icmp .ge 25, 3) := by decide +kernel
theorem dX6_sure_12 : decode cX6_sure 12 = .ok (.aload_n 0, 1) := by decide +kernel
theorem dX6_sure_13 : decode cX6_sure 13 = .ok (.getfield 9, 3) := by decide +kernel
theorem dX6_sure_16 : decode cX6_sure 16 = .ok (.iload_n 3, 1) := by decide +kernel
theorem dX6_sure_17 : decode cX6_sure 17 = .ok (.iaload, 1) := by decide +kernel
theorem dX6_sure_18 : decode cX6_sure 18 = .ok (.iload_n 1, 1) := by decide +kernel
theorem dX6_sure_19 : decode cX6_sure 19 = .ok (.invokestatic 57, 3) := by decide +kernel
theorem dX6_sure_22 : decode cX6_sure 22 = .ok (.ifCond .eq 6, 3) := by decide +kernel
theorem dX6_sure_25 : decode cX6_sure 25 = .ok (.iinc 2 1, 3) := by decide +kernel
theorem dX6_sure_28 : decode cX6_sure 28 = .ok (.iinc 3 1, 3) := by decide +kernel
theorem dX6_sure_31 : decode cX6_sure 31 = .ok (.goto (-27), 3) := by decide +kernel
theorem dX6_sure_34 : decode cX6_sure 34 = .ok (.aload_n 0, 1) := by decide +kernel
theorem dX6_sure_35 : decode cX6_sure 35 = .ok (.getfield 23, 3) := by decide +kernel
theorem dX6_sure_38 : decode cX6_sure 38 = .ok (.ifCond .eq 15, 3) := by decide +kernel
theorem dX6_sure_41 : decode cX6_sure 41 = .ok (.iload_n 2, 1) := by decide +kernel
theorem dX6_sure_42 : decode cX6_sure 42 = .ok (.ifCond .le 13, 3) := by decide +kernel
theorem dX6_sure_45 : decode cX6_sure 45 = .ok (.iload_n 2, 1) := by decide +kernel
theorem dX6_sure_46 : decode cX6_sure 46 = .ok (.aload_n 0, 1) := by decide +kernel
theorem dX6_sure_47 : decode cX6_sure 47 = .ok (.getfield 23, 3) := by decide +kernel
theorem dX6_sure_50 : decode cX6_sure 50 = .ok (.if_icmp .ge 5, 3) := by decide +kernel
theorem dX6_sure_53 : decode cX6_sure 53 = .ok (.iconst (-1), 1) := by decide +kernel
theorem dX6_sure_54 : decode cX6_sure 54 = .ok (.ireturn, 1) := by decide +kernel
theorem dX6_sure_55 : decode cX6_sure 55 = .ok (.iload_n 2, 1) := by decide +kernel
theorem dX6_sure_56 : decode cX6_sure 56 = .ok (.ifCond .le 7, 3) := by decide +kernel
theorem dX6_sure_59 : decode cX6_sure 59 = .ok (.iconst 1, 1) := by decide +kernel
theorem dX6_sure_60 : decode cX6_sure 60 = .ok (.goto 4, 3) := by decide +kernel
theorem dX6_sure_63 : decode cX6_sure 63 = .ok (.iconst 0, 1) := by decide +kernel
theorem dX6_sure_64 : decode cX6_sure 64 = .ok (.ireturn, 1) := by decide +kernel
theorem dX7_init_0 : decode cX7_init 0 = .ok (.aload_n 0, 1) := by decide +kernel
theorem dX7_init_1 : decode cX7_init 1 = .ok (.invokespecial 3, 3) := by decide +kernel
theorem dX7_init_4 : decode cX7_init 4 = .ok (.aload_n 0, 1) := by decide +kernel
theorem dX7_init_5 : decode cX7_init 5 = .ok (.bipush 10, 2) := by decide +kernel
theorem dX7_init_7 : decode cX7_init 7 = .ok (.newarray .int, 2) := by decide +kernel
theorem dX7_init_9 : decode cX7_init 9 = .ok (.putfield 9, 3) := by decide +kernel
theorem dX7_init_12 : decode cX7_init 12 = .ok (.aload_n 0, 1) := by decide +kernel
theorem dX7_init_13 : decode cX7_init 13 = .ok (.invokevirtual 15, 3) := by decide +kernel
theorem dX7_init_16 : decode cX7_init 16 = .ok (.return_, 1) := by decide +kernel
theorem dX7_clear_0 : decode cX7_clear 0 = .ok (.aload_n 0, 1) := by decide +kernel
theorem dX7_clear_1 : decode cX7_clear 1 = .ok (.iconst 2, 1) := by decide +kernel
theorem dX7_clear_2 : decode cX7_clear 2 = .ok (.putfield 18, 3) := by decide +kernel
theorem dX7_clear_5 : decode cX7_clear 5 = .ok (.aload_n 0, 1) := by decide +kernel
theorem dX7_clear_6 : decode cX7_clear 6 = .ok (.iconst 2, 1) := by decide +kernel
theorem dX7_clear_7 : decode cX7_clear 7 = .ok (.putfield 22, 3) := by decide +kernel
theorem dX7_clear_10 : decode cX7_clear 10 = .ok (.aload_n 0, 1) := by decide +kernel
theorem dX7_clear_11 : decode cX7_clear 11 = .ok (.getfield 9, 3) := by decide +kernel
theorem dX7_clear_14 : decode cX7_clear 14 = .ok (.iconst (-1), 1) := by decide +kernel
theorem dX7_clear_15 : decode cX7_clear 15 = .ok (.invokestatic 25, 3) := by decide +kernel
theorem dX7_clear_18 : decode cX7_clear 18 = .ok (.return_, 1) := by decide +kernel
theorem dX7_take_0 : decode cX7_take 0 = .ok (.iload_n 1, 1) := by decide +kernel
theorem dX7_take_1 : decode cX7_take 1 = .ok (.ifCond .ne 11, 3) := by decide +kernel
theorem dX7_take_4 : decode cX7_take 4 = .ok (.aload_n 0, 1) := by decide +kernel
theorem dX7_take_5 : decode cX7_take 5 = .ok (.iload_n 2, 1) := by decide +kernel
theorem dX7_take_6 : decode cX7_take 6 = .ok (.putfield 18, 3) := by decide +kernel
theorem dX7_take_9 : decode cX7_take 9 = .ok (.goto 33, 3) := by decide +kernel
theorem dX7_take_12 : decode cX7_take 12 = .ok (.iload_n 1, 1) := by decide +kernel
theorem dX7_take_13 : decode cX7_take 13 = .ok (.iconst 1, 1) := by decide +kernel
theorem dX7_take_14 : decode cX7_take 14 = .ok (.if_icmp .ne 11, 3) := by decide +kernel
theorem dX7_take_17 : decode cX7_take 17 = .ok (.aload_n 0, 1) := by decide +kernel
theorem dX7_take_18 : decode cX7_take 18 = .ok (.iload_n 2, 1) := by decide +kernel
theorem dX7_take_19 : decode cX7_take 19 = .ok (.putfield 22, 3) := by decide +kernel
theorem dX7_take_22 : decode cX7_take 22 = .ok (.goto 20, 3) := by decide +kernel
theorem dX7_take_25 : decode cX7_take 25 = .ok (.iload_n 2, 1) := by decide +kernel
theorem dX7_take_26 : decode cX7_take 26 = .ok (.ifCond .lt 16, 3) := by decide +kernel
theorem dX7_take_29 : decode cX7_take 29 = .ok (.iload_n 2, 1) := by decide +kernel
theorem dX7_take_30 : decode cX7_take 30 = .ok (.bipush 10, 2) := by decide +kernel
theorem dX7_take_32 : decode cX7_take 32 = .ok (.if_icmp .ge 10, 3) := by decide +kernel
theorem dX7_take_35 : decode cX7_take 35 = .ok (.aload_n 0, 1) := by decide +kernel
theorem dX7_take_36 : decode cX7_take 36 = .ok (.getfield 9, 3) := by decide +kernel
theorem dX7_take_39 : decode cX7_take 39 = .ok (.iload_n 2, 1) := by decide +kernel
theorem dX7_take_40 : decode cX7_take 40 = .ok (.iload_n 3, 1) := by decide +kernel
theorem dX7_take_41 : decode cX7_take 41 = .ok (.iastore, 1) := by decide +kernel
theorem dX7_take_42 : decode cX7_take 42 = .ok (.return_, 1) := by decide +kernel
theorem dX7_copyFrom_0 : decode cX7_copyFrom 0 = .ok (.aload_n 0, 1) := by decide +kernel
theorem dX7_copyFrom_1 : decode cX7_copyFrom 1 = .ok (.aload_n 1, 1) := by decide +kernel
theorem dX7_copyFrom_2 : decode cX7_copyFrom 2 = .ok (.getfield 18, 3) := by decide +kernel
theorem dX7_copyFrom_5 : decode cX7_copyFrom 5 = .ok (.putfield 18, 3) := by decide +kernel
theorem dX7_copyFrom_8 : decode cX7_copyFrom 8 = .ok (.aload_n 0, 1) := by decide +kernel
theorem dX7_copyFrom_9 : decode cX7_copyFrom 9 = .ok (.aload_n 1, 1) := by decide +kernel
theorem dX7_copyFrom_10 : decode cX7_copyFrom 10 = .ok (.getfield 22, 3) := by decide +kernel
theorem dX7_copyFrom_13 : decode cX7_copyFrom 13 = .ok (.putfield 22, 3) := by decide +kernel
theorem dX7_copyFrom_16 : decode cX7_copyFrom 16 = .ok (.aload_n 1, 1) := by decide +kernel
theorem dX7_copyFrom_17 : decode cX7_copyFrom 17 = .ok (.getfield 9, 3) := by decide +kernel
theorem dX7_copyFrom_20 : decode cX7_copyFrom 20 = .ok (.aload_n 0, 1) := by decide +kernel
theorem dX7_copyFrom_21 : decode cX7_copyFrom 21 = .ok (.getfield 9, 3) := by decide +kernel
theorem dX7_copyFrom_24 : decode cX7_copyFrom 24 = .ok (.invokestatic 31, 3) := by decide +kernel
theorem dX7_copyFrom_27 : decode cX7_copyFrom 27 = .ok (.return_, 1) := by decide +kernel
theorem dX8_init_0 : decode cX8_init 0 = .ok (.aload_n 0, 1) := by decide +kernel
theorem dX8_init_1 : decode cX8_init 1 = .ok (.invokespecial 3, 3) := by decide +kernel
theorem dX8_init_4 : decode cX8_init 4 = .ok (.aload_n 0, 1) := by decide +kernel
theorem dX8_init_5 : decode cX8_init 5 = .ok (.bipush 7, 2) := by decide +kernel
theorem dX8_init_7 : decode cX8_init 7 = .ok (.newarray .int, 2) := by decide +kernel
theorem dX8_init_9 : decode cX8_init 9 = .ok (.putfield 9, 3) := by decide +kernel
theorem dX8_init_12 : decode cX8_init 12 = .ok (.aload_n 0, 1) := by decide +kernel
theorem dX8_init_13 : decode cX8_init 13 = .ok (.bipush 42, 2) := by decide +kernel
theorem dX8_init_15 : decode cX8_init 15 = .ok (.newarray .int, 2) := by decide +kernel
theorem dX8_init_17 : decode cX8_init 17 = .ok (.putfield 15, 3) := by decide +kernel
theorem dX8_init_20 : decode cX8_init 20 = .ok (.aload_n 0, 1) := by decide +kernel
theorem dX8_init_21 : decode cX8_init 21 = .ok (.bipush 42, 2) := by decide +kernel
theorem dX8_init_23 : decode cX8_init 23 = .ok (.newarray .int, 2) := by decide +kernel
theorem dX8_init_25 : decode cX8_init 25 = .ok (.putfield 18, 3) := by decide +kernel
theorem dX8_init_28 : decode cX8_init 28 = .ok (.aload_n 0, 1) := by decide +kernel
theorem dX8_init_29 : decode cX8_init 29 = .ok (.bipush 42, 2) := by decide +kernel
theorem dX8_init_31 : decode cX8_init 31 = .ok (.newarray .int, 2) := by decide +kernel
theorem dX8_init_33 : decode cX8_init 33 = .ok (.putfield 21, 3) := by decide +kernel
theorem dX8_init_36 : decode cX8_init 36 = .ok (.return_, 1) := by decide +kernel
theorem dX8_holds_0 : decode cX8_holds 0 = .ok (.iload_n 1, 1) := by decide +kernel
theorem dX8_holds_1 : decode cX8_holds 1 = .ok (.ifCond .lt 15, 3) := by decide +kernel
theorem dX8_holds_4 : decode cX8_holds 4 = .ok (.iload_n 1, 1) := by decide +kernel
theorem dX8_holds_5 : decode cX8_holds 5 = .ok (.aload_n 0, 1) := by decide +kernel
theorem dX8_holds_6 : decode cX8_holds 6 = .ok (.getfield 24, 3) := by decide +kernel
theorem dX8_holds_9 : decode cX8_holds 9 = .ok (.if_icmp .ge 7, 3) := by decide +kernel
theorem dX8_holds_12 : decode cX8_holds 12 = .ok (.iconst 1, 1) := by decide +kernel
theorem dX8_holds_13 : decode cX8_holds 13 = .ok (.goto 4, 3) := by decide +kernel
theorem dX8_holds_16 : decode cX8_holds 16 = .ok (.iconst 0, 1) := by decide +kernel
theorem dX8_holds_17 : decode cX8_holds 17 = .ok (.ireturn, 1) := by decide +kernel
theorem dX8_take_0 : decode cX8_take 0 = .ok (.iload_n 1, 1) := by decide +kernel
theorem dX8_take_1 : decode cX8_take 1 = .ok (.bipush 9, 2) := by decide +kernel
theorem dX8_take_3 : decode cX8_take 3 = .ok (.if_icmp .ne 33, 3) := by decide +kernel
theorem dX8_take_6 : decode cX8_take 6 = .ok (.aload_n 0, 1) := by decide +kernel
theorem dX8_take_7 : decode cX8_take 7 = .ok (.getfield 24, 3) := by decide +kernel
theorem dX8_take_10 : decode cX8_take 10 = .ok (.bipush 7, 2) := by decide +kernel
theorem dX8_take_12 : decode cX8_take 12 = .ok (.if_icmp .ge 23, 3) := by decide +kernel
theorem dX8_take_15 : decode cX8_take 15 = .ok (.aload_n 0, 1) := by decide +kernel
theorem dX8_take_16 : decode cX8_take 16 = .ok (.getfield 9, 3) := by decide +kernel
theorem dX8_take_19 : decode cX8_take 19 = .ok (.aload_n 0, 1) := by decide +kernel
theorem dX8_take_20 : decode cX8_take 20 = .ok (.getfield 24, 3) := by decide +kernel
theorem dX8_take_23 : decode cX8_take 23 = .ok (.iconst 0, 1) := by decide +kernel
theorem dX8_take_24 : decode cX8_take 24 = .ok (.iastore, 1) := by decide +kernel
theorem dX8_take_25 : decode cX8_take 25 = .ok (.aload_n 0, 1) := by decide +kernel
theorem dX8_take_26 : decode cX8_take 26 = .ok (.dup, 1) := by decide +kernel
theorem dX8_take_27 : decode cX8_take 27 = .ok (.getfield 24, 3) := by decide +kernel
theorem dX8_take_30 : decode cX8_take 30 = .ok (.iconst 1, 1) := by decide +kernel
theorem dX8_take_31 : decode cX8_take 31 = .ok (.iadd, 1) := by decide +kernel
theorem dX8_take_32 : decode cX8_take 32 = .ok (.putfield 24, 3) := by decide +kernel
theorem dX8_take_35 : decode cX8_take 35 = .ok (.return_, 1) := by decide +kernel
theorem dX8_take_36 : decode cX8_take 36 = .ok (.aload_n 0, 1) := by decide +kernel
theorem dX8_take_37 : decode cX8_take 37 = .ok (.getfield 24, 3) := by decide +kernel
theorem dX8_take_40 : decode cX8_take 40 = .ok (.iconst 1, 1) := by decide +kernel
theorem dX8_take_41 : decode cX8_take 41 = .ok (.isub, 1) := by decide +kernel
theorem dX8_take_42 : decode cX8_take 42 = .ok (.istore 4, 2) := by decide +kernel
theorem dX8_take_44 : decode cX8_take 44 = .ok (.iload 4, 2) := by decide +kernel
theorem dX8_take_46 : decode cX8_take 46 = .ok (.ifCond .lt 15, 3) := by decide +kernel
theorem dX8_take_49 : decode cX8_take 49 = .ok (.aload_n 0, 1) := by decide +kernel
theorem dX8_take_50 : decode cX8_take 50 = .ok (.getfield 9, 3) := by decide +kernel
theorem dX8_take_53 : decode cX8_take 53 = .ok (.iload 4, 2) := by decide +kernel
theorem dX8_take_55 : decode cX8_take 55 = .ok (.iaload, 1) := by decide +kernel
theorem dX8_take_56 : decode cX8_take 56 = .ok (.bipush 6, 2) := by decide +kernel
theorem dX8_take_58 : decode cX8_take 58 = .ok (.if_icmp .lt 4, 3) := by decide +kernel
theorem dX8_take_61 : decode cX8_take 61 = .ok (.return_, 1) := by decide +kernel
theorem dX8_take_62 : decode cX8_take 62 = .ok (.iload 4, 2) := by decide +kernel
theorem dX8_take_64 : decode cX8_take 64 = .ok (.bipush 6, 2) := by decide +kernel
theorem dX8_take_66 : decode cX8_take 66 = .ok (.imul, 1) := by decide +kernel
theorem dX8_take_67 : decode cX8_take 67 = .ok (.aload_n 0, 1) := by decide +kernel
theorem dX8_take_68 : decode cX8_take 68 = .ok (.getfield 9, 3) := by decide +kernel
theorem dX8_take_71 : decode cX8_take 71 = .ok (.iload 4, 2) := by decide +kernel
theorem dX8_take_73 : decode cX8_take 73 = .ok (.iaload, 1) := by decide +kernel
theorem dX8_take_74 : decode cX8_take 74 = .ok (.iadd, 1) := by decide +kernel
theorem dX8_take_75 : decode cX8_take 75 = .ok (.istore 5, 2) := by decide +kernel
theorem dX8_take_77 : decode cX8_take 77 = .ok (.aload_n 0, 1) := by decide +kernel
theorem dX8_take_78 : decode cX8_take 78 = .ok (.getfield 15, 3) := by decide +kernel
theorem dX8_take_81 : decode cX8_take 81 = .ok (.iload 5, 2) := by decide +kernel
theorem dX8_take_83 : decode cX8_take 83 = .ok (.iload_n 1, 1) := by decide +kernel
theorem dX8_take_84 : decode cX8_take 84 = .ok (.iconst 3, 1) := by decide +kernel
theorem dX8_take_85 : decode cX8_take 85 = .ok (.isub, 1) := by decide +kernel
theorem dX8_take_86 : decode cX8_take 86 = .ok (.iastore, 1) := by decide +kernel
theorem dX8_take_87 : decode cX8_take 87 = .ok (.aload_n 0, 1) := by decide +kernel
theorem dX8_take_88 : decode cX8_take 88 = .ok (.getfield 18, 3) := by decide +kernel
theorem dX8_take_91 : decode cX8_take 91 = .ok (.iload 5, 2) := by decide +kernel
theorem dX8_take_93 : decode cX8_take 93 = .ok (.iload_n 2, 1) := by decide +kernel
theorem dX8_take_94 : decode cX8_take 94 = .ok (.iastore, 1) := by decide +kernel
theorem dX8_take_95 : decode cX8_take 95 = .ok (.aload_n 0, 1) := by decide +kernel
theorem dX8_take_96 : decode cX8_take 96 = .ok (.getfield 21, 3) := by decide +kernel
theorem dX8_take_99 : decode cX8_take 99 = .ok (.iload 5, 2) := by decide +kernel
theorem dX8_take_101 : decode cX8_take 101 = .ok (.iload_n 3, 1) := by decide +kernel
theorem dX8_take_102 : decode cX8_take 102 = .ok (.iastore, 1) := by decide +kernel
theorem dX8_take_103 : decode cX8_take 103 = .ok (.aload_n 0, 1) := by decide +kernel
theorem dX8_take_104 : decode cX8_take 104 = .ok (.getfield 9, 3) := by decide +kernel
theorem dX8_take_107 : decode cX8_take 107 = .ok (.iload 4, 2) := by decide +kernel
theorem dX8_take_109 : decode cX8_take 109 = .ok (.dup2, 1) := by decide +kernel
theorem dX8_take_110 : decode cX8_take 110 = .ok (.iaload, 1) := by decide +kernel
theorem dX8_take_111 : decode cX8_take 111 = .ok (.iconst 1, 1) := by decide +kernel
theorem dX8_take_112 : decode cX8_take 112 = .ok (.iadd, 1) := by decide +kernel
theorem dX8_take_113 : decode cX8_take 113 = .ok (.iastore, 1) := by decide +kernel
theorem dX8_take_114 : decode cX8_take 114 = .ok (.return_, 1) := by decide +kernel
theorem dX8_copyFrom_0 : decode cX8_copyFrom 0 = .ok (.aload_n 0, 1) := by decide +kernel
theorem dX8_copyFrom_1 : decode cX8_copyFrom 1 = .ok (.aload_n 1, 1) := by decide +kernel
theorem dX8_copyFrom_2 : decode cX8_copyFrom 2 = .ok (.getfield 24, 3) := by decide +kernel
theorem dX8_copyFrom_5 : decode cX8_copyFrom 5 = .ok (.putfield 24, 3) := by decide +kernel
theorem dX8_copyFrom_8 : decode cX8_copyFrom 8 = .ok (.aload_n 1, 1) := by decide +kernel
theorem dX8_copyFrom_9 : decode cX8_copyFrom 9 = .ok (.getfield 9, 3) := by decide +kernel
theorem dX8_copyFrom_12 : decode cX8_copyFrom 12 = .ok (.iconst 0, 1) := by decide +kernel
theorem dX8_copyFrom_13 : decode cX8_copyFrom 13 = .ok (.aload_n 0, 1) := by decide +kernel
theorem dX8_copyFrom_14 : decode cX8_copyFrom 14 = .ok (.getfield 9, 3) := by decide +kernel
theorem dX8_copyFrom_17 : decode cX8_copyFrom 17 = .ok (.iconst 0, 1) := by decide +kernel
theorem dX8_copyFrom_18 : decode cX8_copyFrom 18 = .ok (.bipush 7, 2) := by decide +kernel
theorem dX8_copyFrom_20 : decode cX8_copyFrom 20 = .ok (.invokestatic 28, 3) := by decide +kernel
theorem dX8_copyFrom_23 : decode cX8_copyFrom 23 = .ok (.aload_n 1, 1) := by decide +kernel
theorem dX8_copyFrom_24 : decode cX8_copyFrom 24 = .ok (.getfield 15, 3) := by decide +kernel
theorem dX8_copyFrom_27 : decode cX8_copyFrom 27 = .ok (.iconst 0, 1) := by decide +kernel
theorem dX8_copyFrom_28 : decode cX8_copyFrom 28 = .ok (.aload_n 0, 1) := by decide +kernel
theorem dX8_copyFrom_29 : decode cX8_copyFrom 29 = .ok (.getfield 15, 3) := by decide +kernel
theorem dX8_copyFrom_32 : decode cX8_copyFrom 32 = .ok (.iconst 0, 1) := by decide +kernel
theorem dX8_copyFrom_33 : decode cX8_copyFrom 33 = .ok (.bipush 42, 2) := by decide +kernel
theorem dX8_copyFrom_35 : decode cX8_copyFrom 35 = .ok (.invokestatic 28, 3) := by decide +kernel
theorem dX8_copyFrom_38 : decode cX8_copyFrom 38 = .ok (.aload_n 1, 1) := by decide +kernel
theorem dX8_copyFrom_39 : decode cX8_copyFrom 39 = .ok (.getfield 18, 3) := by decide +kernel
theorem dX8_copyFrom_42 : decode cX8_copyFrom 42 = .ok (.iconst 0, 1) := by decide +kernel
theorem dX8_copyFrom_43 : decode cX8_copyFrom 43 = .ok (.aload_n 0, 1) := by decide +kernel
theorem dX8_copyFrom_44 : decode cX8_copyFrom 44 = .ok (.getfield 18, 3) := by decide +kernel
theorem dX8_copyFrom_47 : decode cX8_copyFrom 47 = .ok (.iconst 0, 1) := by decide +kernel
theorem dX8_copyFrom_48 : decode cX8_copyFrom 48 = .ok (.bipush 42, 2) := by decide +kernel
theorem dX8_copyFrom_50 : decode cX8_copyFrom 50 = .ok (.invokestatic 28, 3) := by decide +kernel
theorem dX8_copyFrom_53 : decode cX8_copyFrom 53 = .ok (.aload_n 1, 1) := by decide +kernel
theorem dX8_copyFrom_54 : decode cX8_copyFrom 54 = .ok (.getfield 21, 3) := by decide +kernel
theorem dX8_copyFrom_57 : decode cX8_copyFrom 57 = .ok (.iconst 0, 1) := by decide +kernel
theorem dX8_copyFrom_58 : decode cX8_copyFrom 58 = .ok (.aload_n 0, 1) := by decide +kernel
theorem dX8_copyFrom_59 : decode cX8_copyFrom 59 = .ok (.getfield 21, 3) := by decide +kernel
theorem dX8_copyFrom_62 : decode cX8_copyFrom 62 = .ok (.iconst 0, 1) := by decide +kernel
theorem dX8_copyFrom_63 : decode cX8_copyFrom 63 = .ok (.bipush 42, 2) := by decide +kernel
theorem dX8_copyFrom_65 : decode cX8_copyFrom 65 = .ok (.invokestatic 28, 3) := by decide +kernel
theorem dX8_copyFrom_68 : decode cX8_copyFrom 68 = .ok (.return_, 1) := by decide +kernel
theorem dX8_readsOf_0 : decode cX8_readsOf 0 = .ok (.iconst 0, 1) := by decide +kernel
theorem dX8_readsOf_1 : decode cX8_readsOf 1 = .ok (.istore_n 2, 1) := by decide +kernel
theorem dX8_readsOf_2 : decode cX8_readsOf 2 = .ok (.iconst 0, 1) := by decide +kernel
theorem dX8_readsOf_3 : decode cX8_readsOf 3 = .ok (.istore_n 3, 1) := by decide +kernel
theorem dX8_readsOf_4 : decode cX8_readsOf 4 = .ok (.iload_n 3, 1) := by decide +kernel
theorem dX8_readsOf_5 : decode cX8_readsOf 5 = .ok (.aload_n 0, 1) := by decide +kernel
theorem dX8_readsOf_6 : decode cX8_readsOf 6 = .ok (.getfield 9, 3) := by decide +kernel
theorem dX8_readsOf_9 : decode cX8_readsOf 9 = .ok (.iload_n 1, 1) := by decide +kernel
theorem dX8_readsOf_10 : decode cX8_readsOf 10 = .ok (.iaload, 1) := by decide +kernel
theorem dX8_readsOf_11 : decode cX8_readsOf 11 = .ok (.if_icmp .ge 86, 3) := by decide +kernel
theorem dX8_readsOf_14 : decode cX8_readsOf 14 = .ok (.iload_n 1, 1) := by decide +kernel
theorem dX8_readsOf_15 : decode cX8_readsOf 15 = .ok (.bipush 6, 2) := by decide +kernel
theorem dX8_readsOf_17 : decode cX8_readsOf 17 = .ok (.imul, 1) := by decide +kernel
theorem dX8_readsOf_18 : decode cX8_readsOf 18 = .ok (.iload_n 3, 1) := by decide +kernel
theorem dX8_readsOf_19 : decode cX8_readsOf 19 = .ok (.iadd, 1) := by decide +kernel
theorem dX8_readsOf_20 : decode cX8_readsOf 20 = .ok (.istore 4, 2) := by decide +kernel
theorem dX8_readsOf_22 : decode cX8_readsOf 22 = .ok (.aload_n 0, 1) := by decide +kernel
theorem dX8_readsOf_23 : decode cX8_readsOf 23 = .ok (.getfield 15, 3) := by decide +kernel
theorem dX8_readsOf_26 : decode cX8_readsOf 26 = .ok (.iload 4, 2) := by decide +kernel
theorem dX8_readsOf_28 : decode cX8_readsOf 28 = .ok (.iaload, 1) := by decide +kernel
theorem dX8_readsOf_29 : decode cX8_readsOf 29 = .ok (.ifCond .eq 14, 3) := by decide +kernel
theorem dX8_readsOf_32 : decode cX8_readsOf 32 = .ok (.aload_n 0, 1) := by decide +kernel
theorem dX8_readsOf_33 : decode cX8_readsOf 33 = .ok (.getfield 15, 3) := by decide +kernel
theorem dX8_readsOf_36 : decode cX8_readsOf 36 = .ok (.iload 4, 2) := by decide +kernel
theorem dX8_readsOf_38 : decode cX8_readsOf 38 = .ok (.iaload, 1) := by decide +kernel
theorem dX8_readsOf_39 : decode cX8_readsOf 39 = .ok (.iconst 4, 1) := by decide +kernel
theorem dX8_readsOf_40 : decode cX8_readsOf 40 = .ok (.if_icmp .ne 18, 3) := by decide +kernel
theorem dX8_readsOf_43 : decode cX8_readsOf 43 = .ok (.iload_n 2, 1) := by decide +kernel
theorem dX8_readsOf_44 : decode cX8_readsOf 44 = .ok (.iconst 1, 1) := by decide +kernel
theorem dX8_readsOf_45 : decode cX8_readsOf 45 = .ok (.aload_n 0, 1) := by decide +kernel
theorem dX8_readsOf_46 : decode cX8_readsOf 46 = .ok (.getfield 18, 3) := by decide +kernel
theorem dX8_readsOf_49 : decode cX8_readsOf 49 = .ok (.iload 4, 2) := by decide +kernel
theorem dX8_readsOf_51 : decode cX8_readsOf 51 = .ok (.iaload, 1) := by decide +kernel
theorem dX8_readsOf_52 : decode cX8_readsOf 52 = .ok (.ishl, 1) := by decide +kernel
theorem dX8_readsOf_53 : decode cX8_readsOf 53 = .ok (.ior, 1) := by decide +kernel
theorem dX8_readsOf_54 : decode cX8_readsOf 54 = .ok (.istore_n 2, 1) := by decide +kernel
theorem dX8_readsOf_55 : decode cX8_readsOf 55 = .ok (.goto 36, 3) := by decide +kernel
theorem dX8_readsOf_58 : decode cX8_readsOf 58 = .ok (.aload_n 0, 1) := by decide +kernel
theorem dX8_readsOf_59 : decode cX8_readsOf 59 = .ok (.getfield 15, 3) := by decide +kernel
theorem dX8_readsOf_62 : decode cX8_readsOf 62 = .ok (.iload 4, 2) := by decide +kernel
theorem dX8_readsOf_64 : decode cX8_readsOf 64 = .ok (.iaload, 1) := by decide +kernel
theorem dX8_readsOf_65 : decode cX8_readsOf 65 = .ok (.iconst 5, 1) := by decide +kernel
theorem dX8_readsOf_66 : decode cX8_readsOf 66 = .ok (.if_icmp .ne 25, 3) := by decide +kernel
theorem dX8_readsOf_69 : decode cX8_readsOf 69 = .ok (.iload_n 2, 1) := by decide +kernel
theorem dX8_readsOf_70 : decode cX8_readsOf 70 = .ok (.iconst 2, 1) := by decide +kernel
theorem dX8_readsOf_71 : decode cX8_readsOf 71 = .ok (.aload_n 0, 1) := by decide +kernel
theorem dX8_readsOf_72 : decode cX8_readsOf 72 = .ok (.getfield 21, 3) := by decide +kernel
theorem dX8_readsOf_75 : decode cX8_readsOf 75 = .ok (.iload 4, 2) := by decide +kernel
theorem dX8_readsOf_77 : decode cX8_readsOf 77 = .ok (.iaload, 1) := by decide +kernel
theorem dX8_readsOf_78 : decode cX8_readsOf 78 = .ok (.ishl, 1) := by decide +kernel
theorem dX8_readsOf_79 : decode cX8_readsOf 79 = .ok (.iconst 1, 1) := by decide +kernel
theorem dX8_readsOf_80 : decode cX8_readsOf 80 = .ok (.aload_n 0, 1) := by decide +kernel
theorem dX8_readsOf_81 : decode cX8_readsOf 81 = .ok (.getfield 18, 3) := by decide +kernel
theorem dX8_readsOf_84 : decode cX8_readsOf 84 = .ok (.iload 4, 2) := by decide +kernel
theorem dX8_readsOf_86 : decode cX8_readsOf 86 = .ok (.iaload, 1) := by decide +kernel
theorem dX8_readsOf_87 : decode cX8_readsOf 87 = .ok (.ishl, 1) := by decide +kernel
theorem dX8_readsOf_88 : decode cX8_readsOf 88 = .ok (.isub, 1) := by decide +kernel
theorem dX8_readsOf_89 : decode cX8_readsOf 89 = .ok (.ior, 1) := by decide +kernel
theorem dX8_readsOf_90 : decode cX8_readsOf 90 = .ok (.istore_n 2, 1) := by decide +kernel
theorem dX8_readsOf_91 : decode cX8_readsOf 91 = .ok (.iinc 3 1, 3) := by decide +kernel
theorem dX8_readsOf_94 : decode cX8_readsOf 94 = .ok (.goto (-90), 3) := by decide +kernel
theorem dX8_readsOf_97 : decode cX8_readsOf 97 = .ok (.iload_n 2, 1) := by decide +kernel
theorem dX8_readsOf_98 : decode cX8_readsOf 98 = .ok (.ireturn, 1) := by decide +kernel
theorem dX8_writesOf_0 : decode cX8_writesOf 0 = .ok (.iconst 0, 1) := by decide +kernel
theorem dX8_writesOf_1 : decode cX8_writesOf 1 = .ok (.istore_n 2, 1) := by decide +kernel
theorem dX8_writesOf_2 : decode cX8_writesOf 2 = .ok (.iconst 0, 1) := by decide +kernel
theorem dX8_writesOf_3 : decode cX8_writesOf 3 = .ok (.istore_n 3, 1) := by decide +kernel
theorem dX8_writesOf_4 : decode cX8_writesOf 4 = .ok (.iload_n 3, 1) := by decide +kernel
theorem dX8_writesOf_5 : decode cX8_writesOf 5 = .ok (.aload_n 0, 1) := by decide +kernel
theorem dX8_writesOf_6 : decode cX8_writesOf 6 = .ok (.getfield 9, 3) := by decide +kernel
theorem dX8_writesOf_9 : decode cX8_writesOf 9 = .ok (.iload_n 1, 1) := by decide +kernel
theorem dX8_writesOf_10 : decode cX8_writesOf 10 = .ok (.iaload, 1) := by decide +kernel
theorem dX8_writesOf_11 : decode cX8_writesOf 11 = .ok (.if_icmp .ge 50, 3) := by decide +kernel
theorem dX8_writesOf_14 : decode cX8_writesOf 14 = .ok (.iload_n 1, 1) := by decide +kernel
theorem dX8_writesOf_15 : decode cX8_writesOf 15 = .ok (.bipush 6, 2) := by decide +kernel
theorem dX8_writesOf_17 : decode cX8_writesOf 17 = .ok (.imul, 1) := by decide +kernel
theorem dX8_writesOf_18 : decode cX8_writesOf 18 = .ok (.iload_n 3, 1) := by decide +kernel
theorem dX8_writesOf_19 : decode cX8_writesOf 19 = .ok (.iadd, 1) := by decide +kernel
theorem dX8_writesOf_20 : decode cX8_writesOf 20 = .ok (.istore 4, 2) := by decide +kernel
theorem dX8_writesOf_22 : decode cX8_writesOf 22 = .ok (.aload_n 0, 1) := by decide +kernel
theorem dX8_writesOf_23 : decode cX8_writesOf 23 = .ok (.getfield 15, 3) := by decide +kernel
theorem dX8_writesOf_26 : decode cX8_writesOf 26 = .ok (.iload 4, 2) := by decide +kernel
theorem dX8_writesOf_28 : decode cX8_writesOf 28 = .ok (.iaload, 1) := by decide +kernel
theorem dX8_writesOf_29 : decode cX8_writesOf 29 = .ok (.ifCond .eq 26, 3) := by decide +kernel
theorem dX8_writesOf_32 : decode cX8_writesOf 32 = .ok (.aload_n 0, 1) := by decide +kernel
theorem dX8_writesOf_33 : decode cX8_writesOf 33 = .ok (.getfield 15, 3) := by decide +kernel
theorem dX8_writesOf_36 : decode cX8_writesOf 36 = .ok (.iload 4, 2) := by decide +kernel
theorem dX8_writesOf_38 : decode cX8_writesOf 38 = .ok (.iaload, 1) := by decide +kernel
theorem dX8_writesOf_39 : decode cX8_writesOf 39 = .ok (.iconst 5, 1) := by decide +kernel
theorem dX8_writesOf_40 : decode cX8_writesOf 40 = .ok (.if_icmp .eq 15, 3) := by decide +kernel
theorem dX8_writesOf_43 : decode cX8_writesOf 43 = .ok (.iload_n 2, 1) := by decide +kernel
theorem dX8_writesOf_44 : decode cX8_writesOf 44 = .ok (.iconst 1, 1) := by decide +kernel
theorem dX8_writesOf_45 : decode cX8_writesOf 45 = .ok (.aload_n 0, 1) := by decide +kernel
theorem dX8_writesOf_46 : decode cX8_writesOf 46 = .ok (.getfield 18, 3) := by decide +kernel
theorem dX8_writesOf_49 : decode cX8_writesOf 49 = .ok (.iload 4, 2) := by decide +kernel
theorem dX8_writesOf_51 : decode cX8_writesOf 51 = .ok (.iaload, 1) := by decide +kernel
theorem dX8_writesOf_52 : decode cX8_writesOf 52 = .ok (.ishl, 1) := by decide +kernel
theorem dX8_writesOf_53 : decode cX8_writesOf 53 = .ok (.ior, 1) := by decide +kernel
theorem dX8_writesOf_54 : decode cX8_writesOf 54 = .ok (.istore_n 2, 1) := by decide +kernel
theorem dX8_writesOf_55 : decode cX8_writesOf 55 = .ok (.iinc 3 1, 3) := by decide +kernel
theorem dX8_writesOf_58 : decode cX8_writesOf 58 = .ok (.goto (-54), 3) := by decide +kernel
theorem dX8_writesOf_61 : decode cX8_writesOf 61 = .ok (.iload_n 2, 1) := by decide +kernel
theorem dX8_writesOf_62 : decode cX8_writesOf 62 = .ok (.ireturn, 1) := by decide +kernel
theorem dX8_freeCouples_0 : decode cX8_freeCouples 0 = .ok (.iconst 0, 1) := by decide +kernel
theorem dX8_freeCouples_1 : decode cX8_freeCouples 1 = .ok (.istore_n 1, 1) := by decide +kernel
theorem dX8_freeCouples_2 : decode cX8_freeCouples 2 = .ok (.iconst 0, 1) := by decide +kernel
theorem dX8_freeCouples_3 : decode cX8_freeCouples 3 = .ok (.istore_n 2, 1) := by decide +kernel
theorem dX8_freeCouples_4 : decode cX8_freeCouples 4 = .ok (.iload_n 2, 1) := by decide +kernel
theorem dX8_freeCouples_5 : decode cX8_freeCouples 5 = .ok (.aload_n 0, 1) := by decide +kernel
theorem dX8_freeCouples_6 : decode cX8_freeCouples 6 = .ok (.getfield 24, 3) := by decide +kernel
theorem dX8_freeCouples_9 : decode cX8_freeCouples 9 = .ok (.if_icmp .ge 78, 3) := by decide +kernel
theorem dX8_freeCouples_12 : decode cX8_freeCouples 12 = .ok (.iload_n 2, 1) := by decide +kernel
theorem dX8_freeCouples_13 : decode cX8_freeCouples 13 = .ok (.iconst 1, 1) := by decide +kernel
theorem dX8_freeCouples_14 : decode cX8_freeCouples 14 = .ok (.iadd, 1) := by decide +kernel
theorem dX8_freeCouples_15 : decode cX8_freeCouples 15 = .ok (.istore_n 3, 1) := by decide +kernel
theorem dX8_freeCouples_16 : decode cX8_freeCouples 16 = .ok (.iload_n 3, 1) := by decide +kernel
theorem dX8_freeCouples_17 : decode cX8_freeCouples 17 = .ok (.aload_n 0, 1) := by decide +kernel
theorem dX8_freeCouples_18 : decode cX8_freeCouples 18 = .ok (.getfield 24, 3) := by decide +kernel
theorem dX8_freeCouples_21 : decode cX8_freeCouples 21 = .ok (.if_icmp .ge 60, 3) := by decide +kernel
theorem dX8_freeCouples_24 : decode cX8_freeCouples 24 = .ok (.aload_n 0, 1) := by decide +kernel
theorem dX8_freeCouples_25 : decode cX8_freeCouples 25 = .ok (.iload_n 2, 1) := by decide +kernel
theorem dX8_freeCouples_26 : decode cX8_freeCouples 26 = .ok (.invokevirtual 34, 3) := by decide +kernel
theorem dX8_freeCouples_29 : decode cX8_freeCouples 29 = .ok (.aload_n 0, 1) := by decide +kernel
theorem dX8_freeCouples_30 : decode cX8_freeCouples 30 = .ok (.iload_n 2, 1) := by decide +kernel
theorem dX8_freeCouples_31 : decode cX8_freeCouples 31 = .ok (.invokevirtual 38, 3) := by decide +kernel
theorem dX8_freeCouples_34 : decode cX8_freeCouples 34 = .ok (.ior, 1) := by decide +kernel
theorem dX8_freeCouples_35 : decode cX8_freeCouples 35 = .ok (.istore 4, 2) := by decide +kernel
theorem dX8_freeCouples_37 : decode cX8_freeCouples 37 = .ok (.aload_n 0, 1) := by decide +kernel
theorem dX8_freeCouples_38 : decode cX8_freeCouples 38 = .ok (.iload_n 3, 1) := by decide +kernel
theorem dX8_freeCouples_39 : decode cX8_freeCouples 39 = .ok (.invokevirtual 34, 3) := by decide +kernel
theorem dX8_freeCouples_42 : decode cX8_freeCouples 42 = .ok (.aload_n 0, 1) := by decide +kernel
theorem dX8_freeCouples_43 : decode cX8_freeCouples 43 = .ok (.iload_n 3, 1) := by decide +kernel
theorem dX8_freeCouples_44 : decode cX8_freeCouples 44 = .ok (.invokevirtual 38, 3) := by decide +kernel
theorem dX8_freeCouples_47 : decode cX8_freeCouples 47 = .ok (.ior, 1) := by decide +kernel
theorem dX8_freeCouples_48 : decode cX8_freeCouples 48 = .ok (.istore 5, 2) := by decide +kernel
theorem dX8_freeCouples_50 : decode cX8_freeCouples 50 = .ok (.aload_n 0, 1) := by decide +kernel
theorem dX8_freeCouples_51 : decode cX8_freeCouples 51 = .ok (.iload_n 2, 1) := by decide +kernel
theorem dX8_freeCouples_52 : decode cX8_freeCouples 52 = .ok (.invokevirtual 38, 3) := by decide +kernel
theorem dX8_freeCouples_55 : decode cX8_freeCouples 55 = .ok (.iload 5, 2) := by decide +kernel
theorem dX8_freeCouples_57 : decode cX8_freeCouples 57 = .ok (.iand, 1) := by decide +kernel
theorem dX8_freeCouples_58 : decode cX8_freeCouples 58 = .ok (.ifCond .ne 17, 3) := by decide +kernel
theorem dX8_freeCouples_61 : decode cX8_freeCouples 61 = .ok (.aload_n 0, 1) := by decide +kernel
theorem dX8_freeCouples_62 : decode cX8_freeCouples 62 = .ok (.iload_n 3, 1) := by decide +kernel
theorem dX8_freeCouples_63 : decode cX8_freeCouples 63 = .ok (.invokevirtual 38, 3) := by decide +kernel
theorem dX8_freeCouples_66 : decode cX8_freeCouples 66 = .ok (.iload 4, 2) := by decide +kernel
theorem dX8_freeCouples_68 : decode cX8_freeCouples 68 = .ok (.iand, 1) := by decide +kernel
theorem dX8_freeCouples_69 : decode cX8_freeCouples 69 = .ok (.ifCond .ne 6, 3) := by decide +kernel
theorem dX8_freeCouples_72 : decode cX8_freeCouples 72 = .ok (.iinc 1 1, 3) := by decide +kernel
theorem dX8_freeCouples_75 : decode cX8_freeCouples 75 = .ok (.iinc 3 1, 3) := by decide +kernel
theorem dX8_freeCouples_78 : decode cX8_freeCouples 78 = .ok (.goto (-62), 3) := by decide +kernel
theorem dX8_freeCouples_81 : decode cX8_freeCouples 81 = .ok (.iinc 2 1, 3) := by decide +kernel
theorem dX8_freeCouples_84 : decode cX8_freeCouples 84 = .ok (.goto (-80), 3) := by decide +kernel
theorem dX8_freeCouples_87 : decode cX8_freeCouples 87 = .ok (.iload_n 1, 1) := by decide +kernel
theorem dX8_freeCouples_88 : decode cX8_freeCouples 88 = .ok (.ireturn, 1) := by decide +kernel
theorem dX8_blinds_0 : decode cX8_blinds 0 = .ok (.iconst 0, 1) := by decide +kernel
theorem dX8_blinds_1 : decode cX8_blinds 1 = .ok (.istore_n 1, 1) := by decide +kernel
theorem dX8_blinds_2 : decode cX8_blinds 2 = .ok (.iconst 0, 1) := by decide +kernel
theorem dX8_blinds_3 : decode cX8_blinds 3 = .ok (.istore_n 2, 1) := by decide +kernel
theorem dX8_blinds_4 : decode cX8_blinds 4 = .ok (.iload_n 2, 1) := by decide +kernel
theorem dX8_blinds_5 : decode cX8_blinds 5 = .ok (.aload_n 0, 1) := by decide +kernel
theorem dX8_blinds_6 : decode cX8_blinds 6 = .ok (.getfield 24, 3) := by decide +kernel
theorem dX8_blinds_9 : decode cX8_blinds 9 = .ok (.if_icmp .ge 31, 3) := by decide +kernel
theorem dX8_blinds_12 : decode cX8_blinds 12 = .ok (.aload_n 0, 1) := by decide +kernel
theorem dX8_blinds_13 : decode cX8_blinds 13 = .ok (.iload_n 2, 1) := by decide +kernel
theorem dX8_blinds_14 : decode cX8_blinds 14 = .ok (.invokevirtual 38, 3) := by decide +kernel
theorem dX8_blinds_17 : decode cX8_blinds 17 = .ok (.ifCond .eq 17, 3) := by decide +kernel
theorem dX8_blinds_20 : decode cX8_blinds 20 = .ok (.aload_n 0, 1) := by decide +kernel
theorem dX8_blinds_21 : decode cX8_blinds 21 = .ok (.iload_n 2, 1) := by decide +kernel
theorem dX8_blinds_22 : decode cX8_blinds 22 = .ok (.invokevirtual 34, 3) := by decide +kernel
theorem dX8_blinds_25 : decode cX8_blinds 25 = .ok (.ifCond .ne 9, 3) := by decide +kernel
theorem dX8_blinds_28 : decode cX8_blinds 28 = .ok (.iload_n 1, 1) := by decide +kernel
theorem dX8_blinds_29 : decode cX8_blinds 29 = .ok (.iconst 1, 1) := by decide +kernel
theorem dX8_blinds_30 : decode cX8_blinds 30 = .ok (.iload_n 2, 1) := by decide +kernel
theorem dX8_blinds_31 : decode cX8_blinds 31 = .ok (.ishl, 1) := by decide +kernel
theorem dX8_blinds_32 : decode cX8_blinds 32 = .ok (.ior, 1) := by decide +kernel
theorem dX8_blinds_33 : decode cX8_blinds 33 = .ok (.istore_n 1, 1) := by decide +kernel
theorem dX8_blinds_34 : decode cX8_blinds 34 = .ok (.iinc 2 1, 3) := by decide +kernel
theorem dX8_blinds_37 : decode cX8_blinds 37 = .ok (.goto (-33), 3) := by decide +kernel
theorem dX8_blinds_40 : decode cX8_blinds 40 = .ok (.iload_n 1, 1) := by decide +kernel
theorem dX8_blinds_41 : decode cX8_blinds 41 = .ok (.ireturn, 1) := by decide +kernel
theorem dX8_runAlone_0 : decode cX8_runAlone 0 = .ok (.iconst 0, 1) := by decide +kernel
theorem dX8_runAlone_1 : decode cX8_runAlone 1 = .ok (.istore_n 3, 1) := by decide +kernel
theorem dX8_runAlone_2 : decode cX8_runAlone 2 = .ok (.iconst 0, 1) := by decide +kernel
theorem dX8_runAlone_3 : decode cX8_runAlone 3 = .ok (.istore 4, 2) := by decide +kernel
theorem dX8_runAlone_5 : decode cX8_runAlone 5 = .ok (.iload 4, 2) := by decide +kernel
theorem dX8_runAlone_7 : decode cX8_runAlone 7 = .ok (.aload_n 0, 1) := by decide +kernel
theorem dX8_runAlone_8 : decode cX8_runAlone 8 = .ok (.getfield 9, 3) := by decide +kernel
theorem dX8_runAlone_11 : decode cX8_runAlone 11 = .ok (.iload_n 1, 1) := by decide +kernel
theorem dX8_runAlone_12 : decode cX8_runAlone 12 = .ok (.iaload, 1) := by decide +kernel
theorem dX8_runAlone_13 : decode cX8_runAlone 13 = .ok (.if_icmp .ge 27, 3) := by decide +kernel
theorem dX8_runAlone_16 : decode cX8_runAlone 16 = .ok (.iload_n 1, 1) := by decide +kernel
theorem dX8_runAlone_17 : decode cX8_runAlone 17 = .ok (.bipush 6, 2) := by decide +kernel
theorem dX8_runAlone_19 : decode cX8_runAlone 19 = .ok (.imul, 1) := by decide +kernel
theorem dX8_runAlone_20 : decode cX8_runAlone 20 = .ok (.iload 4, 2) := by decide +kernel
theorem dX8_runAlone_22 : decode cX8_runAlone 22 = .ok (.iadd, 1) := by decide +kernel
theorem dX8_runAlone_23 : decode cX8_runAlone 23 = .ok (.istore 5, 2) := by decide +kernel
theorem dX8_runAlone_25 : decode cX8_runAlone 25 = .ok (.aload_n 0, 1) := by decide +kernel
theorem dX8_runAlone_26 : decode cX8_runAlone 26 = .ok (.iload 5, 2) := by decide +kernel
theorem dX8_runAlone_28 : decode cX8_runAlone 28 = .ok (.aload_n 2, 1) := by decide +kernel
theorem dX8_runAlone_29 : decode cX8_runAlone 29 = .ok (.iload_n 3, 1) := by decide +kernel
theorem dX8_runAlone_30 : decode cX8_runAlone 30 = .ok (.invokevirtual 41, 3) := by decide +kernel
theorem dX8_runAlone_33 : decode cX8_runAlone 33 = .ok (.istore_n 3, 1) := by decide +kernel
theorem dX8_runAlone_34 : decode cX8_runAlone 34 = .ok (.iinc 4 1, 3) := by decide +kernel
theorem dX8_runAlone_37 : decode cX8_runAlone 37 = .ok (.goto (-32), 3) := by decide +kernel
theorem dX8_runAlone_40 : decode cX8_runAlone 40 = .ok (.iload_n 3, 1) := by decide +kernel
theorem dX8_runAlone_41 : decode cX8_runAlone 41 = .ok (.ireturn, 1) := by decide +kernel
theorem dX8_stepAlone_0 : decode cX8_stepAlone 0 = .ok (.aload_n 0, 1) := by decide +kernel
theorem dX8_stepAlone_1 : decode cX8_stepAlone 1 = .ok (.getfield 18, 3) := by decide +kernel
theorem dX8_stepAlone_4 : decode cX8_stepAlone 4 = .ok (.iload_n 1, 1) := by decide +kernel
theorem dX8_stepAlone_5 : decode cX8_stepAlone 5 = .ok (.iaload, 1) := by decide +kernel
theorem dX8_stepAlone_6 : decode cX8_stepAlone 6 = .ok (.istore 4, 2) := by decide +kernel
theorem dX8_stepAlone_8 : decode cX8_stepAlone 8 = .ok (.aload_n 0, 1) := by decide +kernel
theorem dX8_stepAlone_9 : decode cX8_stepAlone 9 = .ok (.getfield 15, 3) := by decide +kernel
theorem dX8_stepAlone_12 : decode cX8_stepAlone 12 = .ok (.iload_n 1, 1) := by decide +kernel
theorem dX8_stepAlone_13 : decode cX8_stepAlone 13 = .ok (.iaload, 1) := by decide +kernel
theorem dX8_stepAlone_14 : decode cX8_stepAlone 14 = .ok (.tableswitch 108 0 4 #[34, 48, 55, 62, 74], 34) := by decide +kernel
theorem dX8_stepAlone_48 : decode cX8_stepAlone 48 = .ok (.iload_n 3, 1) := by decide +kernel
theorem dX8_stepAlone_49 : decode cX8_stepAlone 49 = .ok (.aload_n 2, 1) := by decide +kernel
theorem dX8_stepAlone_50 : decode cX8_stepAlone 50 = .ok (.iload 4, 2) := by decide +kernel
theorem dX8_stepAlone_52 : decode cX8_stepAlone 52 = .ok (.iaload, 1) := by decide +kernel
theorem dX8_stepAlone_53 : decode cX8_stepAlone 53 = .ok (.iconst 0, 1) := by decide +kernel
theorem dX8_stepAlone_54 : decode cX8_stepAlone 54 = .ok (.invokestatic 45, 3) := by decide +kernel
theorem dX8_stepAlone_57 : decode cX8_stepAlone 57 = .ok (.iadd, 1) := by decide +kernel
theorem dX8_stepAlone_58 : decode cX8_stepAlone 58 = .ok (.bipush 100, 2) := by decide +kernel
theorem dX8_stepAlone_60 : decode cX8_stepAlone 60 = .ok (.irem, 1) := by decide +kernel
theorem dX8_stepAlone_61 : decode cX8_stepAlone 61 = .ok (.ireturn, 1) := by decide +kernel
theorem dX8_stepAlone_62 : decode cX8_stepAlone 62 = .ok (.aload_n 2, 1) := by decide +kernel
theorem dX8_stepAlone_63 : decode cX8_stepAlone 63 = .ok (.iload 4, 2) := by decide +kernel
theorem dX8_stepAlone_65 : decode cX8_stepAlone 65 = .ok (.iconst (-1), 1) := by decide +kernel
theorem dX8_stepAlone_66 : decode cX8_stepAlone 66 = .ok (.iastore, 1) := by decide +kernel
theorem dX8_stepAlone_67 : decode cX8_stepAlone 67 = .ok (.iload_n 3, 1) := by decide +kernel
theorem dX8_stepAlone_68 : decode cX8_stepAlone 68 = .ok (.ireturn, 1) := by decide +kernel
theorem dX8_stepAlone_69 : decode cX8_stepAlone 69 = .ok (.aload_n 2, 1) := by decide +kernel
theorem dX8_stepAlone_70 : decode cX8_stepAlone 70 = .ok (.iload 4, 2) := by decide +kernel
theorem dX8_stepAlone_72 : decode cX8_stepAlone 72 = .ok (.iload_n 3, 1) := by decide +kernel
theorem dX8_stepAlone_73 : decode cX8_stepAlone 73 = .ok (.iastore, 1) := by decide +kernel
theorem dX8_stepAlone_74 : decode cX8_stepAlone 74 = .ok (.iload_n 3, 1) := by decide +kernel
theorem dX8_stepAlone_75 : decode cX8_stepAlone 75 = .ok (.ireturn, 1) := by decide +kernel
theorem dX8_stepAlone_76 : decode cX8_stepAlone 76 = .ok (.aload_n 2, 1) := by decide +kernel
theorem dX8_stepAlone_77 : decode cX8_stepAlone 77 = .ok (.iload 4, 2) := by decide +kernel
theorem dX8_stepAlone_79 : decode cX8_stepAlone 79 = .ok (.aload_n 0, 1) := by decide +kernel
theorem dX8_stepAlone_80 : decode cX8_stepAlone 80 = .ok (.getfield 21, 3) := by decide +kernel
theorem dX8_stepAlone_83 : decode cX8_stepAlone 83 = .ok (.iload_n 1, 1) := by decide +kernel
theorem dX8_stepAlone_84 : decode cX8_stepAlone 84 = .ok (.iaload, 1) := by decide +kernel
theorem dX8_stepAlone_85 : decode cX8_stepAlone 85 = .ok (.iastore, 1) := by decide +kernel
theorem dX8_stepAlone_86 : decode cX8_stepAlone 86 = .ok (.iload_n 3, 1) := by decide +kernel
theorem dX8_stepAlone_87 : decode cX8_stepAlone 87 = .ok (.ireturn, 1) := by decide +kernel
theorem dX8_stepAlone_88 : decode cX8_stepAlone 88 = .ok (.aload_n 2, 1) := by decide +kernel
theorem dX8_stepAlone_89 : decode cX8_stepAlone 89 = .ok (.iload 4, 2) := by decide +kernel
theorem dX8_stepAlone_91 : decode cX8_stepAlone 91 = .ok (.iaload, 1) := by decide +kernel
theorem dX8_stepAlone_92 : decode cX8_stepAlone 92 = .ok (.iconst 0, 1) := by decide +kernel
theorem dX8_stepAlone_93 : decode cX8_stepAlone 93 = .ok (.invokestatic 45, 3) := by decide +kernel
theorem dX8_stepAlone_96 : decode cX8_stepAlone 96 = .ok (.istore 5, 2) := by decide +kernel
theorem dX8_stepAlone_98 : decode cX8_stepAlone 98 = .ok (.aload_n 2, 1) := by decide +kernel
theorem dX8_stepAlone_99 : decode cX8_stepAlone 99 = .ok (.iload 4, 2) := by decide +kernel
theorem dX8_stepAlone_101 : decode cX8_stepAlone 101 = .ok (.iload 5, 2) := by decide +kernel
theorem dX8_stepAlone_103 : decode cX8_stepAlone 103 = .ok (.aload_n 0, 1) := by decide +kernel
theorem dX8_stepAlone_104 : decode cX8_stepAlone 104 = .ok (.getfield 21, 3) := by decide +kernel
theorem dX8_stepAlone_107 : decode cX8_stepAlone 107 = .ok (.iload_n 1, 1) := by decide +kernel
theorem dX8_stepAlone_108 : decode cX8_stepAlone 108 = .ok (.iaload, 1) := by decide +kernel
theorem dX8_stepAlone_109 : decode cX8_stepAlone 109 = .ok (.iadd, 1) := by decide +kernel
theorem dX8_stepAlone_110 : decode cX8_stepAlone 110 = .ok (.bipush 100, 2) := by decide +kernel
theorem dX8_stepAlone_112 : decode cX8_stepAlone 112 = .ok (.irem, 1) := by decide +kernel
theorem dX8_stepAlone_113 : decode cX8_stepAlone 113 = .ok (.iastore, 1) := by decide +kernel
theorem dX8_stepAlone_114 : decode cX8_stepAlone 114 = .ok (.iload_n 3, 1) := by decide +kernel
theorem dX8_stepAlone_115 : decode cX8_stepAlone 115 = .ok (.iload 5, 2) := by decide +kernel
theorem dX8_stepAlone_117 : decode cX8_stepAlone 117 = .ok (.iadd, 1) := by decide +kernel
theorem dX8_stepAlone_118 : decode cX8_stepAlone 118 = .ok (.bipush 100, 2) := by decide +kernel
theorem dX8_stepAlone_120 : decode cX8_stepAlone 120 = .ok (.irem, 1) := by decide +kernel
theorem dX8_stepAlone_121 : decode cX8_stepAlone 121 = .ok (.ireturn, 1) := by decide +kernel
theorem dX8_stepAlone_122 : decode cX8_stepAlone 122 = .ok (.iload_n 3, 1) := by decide +kernel
theorem dX8_stepAlone_123 : decode cX8_stepAlone 123 = .ok (.istore 6, 2) := by decide +kernel
theorem dX8_stepAlone_125 : decode cX8_stepAlone 125 = .ok (.iload 4, 2) := by decide +kernel
theorem dX8_stepAlone_127 : decode cX8_stepAlone 127 = .ok (.istore 7, 2) := by decide +kernel
theorem dX8_stepAlone_129 : decode cX8_stepAlone 129 = .ok (.iload 7, 2) := by decide +kernel
theorem dX8_stepAlone_131 : decode cX8_stepAlone 131 = .ok (.aload_n 0, 1) := by decide +kernel
theorem dX8_stepAlone_132 : decode cX8_stepAlone 132 = .ok (.getfield 21, 3) := by decide +kernel
theorem dX8_stepAlone_135 : decode cX8_stepAlone 135 = .ok (.iload_n 1, 1) := by decide +kernel
theorem dX8_stepAlone_136 : decode cX8_stepAlone 136 = .ok (.iaload, 1) := by decide +kernel
theorem dX8_stepAlone_137 : decode cX8_stepAlone 137 = .ok (.if_icmp .gt 29, 3) := by decide +kernel
theorem dX8_stepAlone_140 : decode cX8_stepAlone 140 = .ok (.iload 7, 2) := by decide +kernel
theorem dX8_stepAlone_142 : decode cX8_stepAlone 142 = .ok (.bipush 10, 2) := by decide +kernel
theorem dX8_stepAlone_144 : decode cX8_stepAlone 144 = .ok (.if_icmp .ge 22, 3) := by decide +kernel
theorem dX8_stepAlone_147 : decode cX8_stepAlone 147 = .ok (.iload 6, 2) := by decide +kernel
theorem dX8_stepAlone_149 : decode cX8_stepAlone 149 = .ok (.aload_n 2, 1) := by decide +kernel
theorem dX8_stepAlone_150 : decode cX8_stepAlone 150 = .ok (.iload 7, 2) := by decide +kernel
theorem dX8_stepAlone_152 : decode cX8_stepAlone 152 = .ok (.iaload, 1) := by decide +kernel
theorem dX8_stepAlone_153 : decode cX8_stepAlone 153 = .ok (.iconst 0, 1) := by decide +kernel
theorem dX8_stepAlone_154 : decode cX8_stepAlone 154 = .ok (.invokestatic 45, 3) := by decide +kernel
theorem dX8_stepAlone_157 : decode cX8_stepAlone 157 = .ok (.iadd, 1) := by decide +kernel
theorem dX8_stepAlone_158 : decode cX8_stepAlone 158 = .ok (.istore 6, 2) := by decide +kernel
theorem dX8_stepAlone_160 : decode cX8_stepAlone 160 = .ok (.iinc 7 1, 3) := by decide +kernel
theorem dX8_stepAlone_163 : decode cX8_stepAlone 163 = .ok (.goto (-34), 3) := by decide +kernel
theorem dX8_stepAlone_166 : decode cX8_stepAlone 166 = .ok (.iload 6, 2) := by decide +kernel
theorem dX8_stepAlone_168 : decode cX8_stepAlone 168 = .ok (.bipush 100, 2) := by decide +kernel
theorem dX8_stepAlone_170 : decode cX8_stepAlone 170 = .ok (.irem, 1) := by decide +kernel
theorem dX8_stepAlone_171 : decode cX8_stepAlone 171 = .ok (.ireturn, 1) := by decide +kernel
theorem dX9_init_0 : decode cX9_init 0 = .ok (.aload_n 0, 1) := by decide +kernel
theorem dX9_init_1 : decode cX9_init 1 = .ok (.invokespecial 3, 3) := by decide +kernel
theorem dX9_init_4 : decode cX9_init 4 = .ok (.aload_n 0, 1) := by decide +kernel
theorem dX9_init_5 : decode cX9_init 5 = .ok (.sipush 600, 3) := by decide +kernel
theorem dX9_init_8 : decode cX9_init 8 = .ok (.newarray .byte, 2) := by decide +kernel
theorem dX9_init_10 : decode cX9_init 10 = .ok (.putfield 9, 3) := by decide +kernel
theorem dX9_init_13 : decode cX9_init 13 = .ok (.aload_n 0, 1) := by decide +kernel
theorem dX9_init_14 : decode cX9_init 14 = .ok (.iconst (-1), 1) := by decide +kernel
theorem dX9_init_15 : decode cX9_init 15 = .ok (.putfield 15, 3) := by decide +kernel
theorem dX9_init_18 : decode cX9_init 18 = .ok (.aload_n 0, 1) := by decide +kernel
theorem dX9_init_19 : decode cX9_init 19 = .ok (.iconst 4, 1) := by decide +kernel
theorem dX9_init_20 : decode cX9_init 20 = .ok (.newarray .int, 2) := by decide +kernel
theorem dX9_init_22 : decode cX9_init 22 = .ok (.putfield 19, 3) := by decide +kernel
theorem dX9_init_25 : decode cX9_init 25 = .ok (.aload_n 0, 1) := by decide +kernel
theorem dX9_init_26 : decode cX9_init 26 = .ok (.iconst 2, 1) := by decide +kernel
theorem dX9_init_27 : decode cX9_init 27 = .ok (.anewarray 23, 3) := by decide +kernel
theorem dX9_init_30 : decode cX9_init 30 = .ok (.putfield 25, 3) := by decide +kernel
theorem dX9_init_33 : decode cX9_init 33 = .ok (.aload_n 0, 1) := by decide +kernel
theorem dX9_init_34 : decode cX9_init 34 = .ok (.iconst 2, 1) := by decide +kernel
theorem dX9_init_35 : decode cX9_init 35 = .ok (.anewarray 29, 3) := by decide +kernel
theorem dX9_init_38 : decode cX9_init 38 = .ok (.putfield 31, 3) := by decide +kernel
theorem dX9_init_41 : decode cX9_init 41 = .ok (.aload_n 0, 1) := by decide +kernel
theorem dX9_init_42 : decode cX9_init 42 = .ok (.iconst 2, 1) := by decide +kernel
theorem dX9_init_43 : decode cX9_init 43 = .ok (.anewarray 35, 3) := by decide +kernel
theorem dX9_init_46 : decode cX9_init 46 = .ok (.putfield 37, 3) := by decide +kernel
theorem dX9_init_49 : decode cX9_init 49 = .ok (.aload_n 0, 1) := by decide +kernel
theorem dX9_init_50 : decode cX9_init 50 = .ok (.iconst 2, 1) := by decide +kernel
theorem dX9_init_51 : decode cX9_init 51 = .ok (.anewarray 41, 3) := by decide +kernel
theorem dX9_init_54 : decode cX9_init 54 = .ok (.putfield 43, 3) := by decide +kernel
theorem dX9_init_57 : decode cX9_init 57 = .ok (.iconst 0, 1) := by decide +kernel
theorem dX9_init_58 : decode cX9_init 58 = .ok (.istore_n 1, 1) := by decide +kernel
theorem dX9_init_59 : decode cX9_init 59 = .ok (.iload_n 1, 1) := by decide +kernel
theorem dX9_init_60 : decode cX9_init 60 = .ok (.iconst 2, 1) := by decide +kernel
theorem dX9_init_61 : decode cX9_init 61 = .ok (.if_icmp .ge 61, 3) := by decide +kernel
theorem dX9_init_64 : decode cX9_init 64 = .ok (.aload_n 0, 1) := by decide +kernel
theorem dX9_init_65 : decode cX9_init 65 = .ok (.getfield 25, 3) := by decide +kernel
theorem dX9_init_68 : decode cX9_init 68 = .ok (.iload_n 1, 1) := by decide +kernel
theorem dX9_init_69 : decode cX9_init 69 = .ok (.new 23, 3) := by decide +kernel
theorem dX9_init_72 : decode cX9_init 72 = .ok (.dup, 1) := by decide +kernel
theorem dX9_init_73 : decode cX9_init 73 = .ok (.invokespecial 47, 3) := by decide +kernel
theorem dX9_init_76 : decode cX9_init 76 = .ok (.aastore, 1) := by decide +kernel
theorem dX9_init_77 : decode cX9_init 77 = .ok (.aload_n 0, 1) := by decide +kernel
theorem dX9_init_78 : decode cX9_init 78 = .ok (.getfield 31, 3) := by decide +kernel
theorem dX9_init_81 : decode cX9_init 81 = .ok (.iload_n 1, 1) := by decide +kernel
theorem dX9_init_82 : decode cX9_init 82 = .ok (.new 29, 3) := by decide +kernel
theorem dX9_init_85 : decode cX9_init 85 = .ok (.dup, 1) := by decide +kernel
theorem dX9_init_86 : decode cX9_init 86 = .ok (.invokespecial 48, 3) := by decide +kernel
theorem dX9_init_89 : decode cX9_init 89 = .ok (.aastore, 1) := by decide +kernel
theorem dX9_init_90 : decode cX9_init 90 = .ok (.aload_n 0, 1) := by decide +kernel
theorem dX9_init_91 : decode cX9_init 91 = .ok (.getfield 37, 3) := by decide +kernel
theorem dX9_init_94 : decode cX9_init 94 = .ok (.iload_n 1, 1) := by decide +kernel
theorem dX9_init_95 : decode cX9_init 95 = .ok (.new 35, 3) := by decide +kernel
theorem dX9_init_98 : decode cX9_init 98 = .ok (.dup, 1) := by decide +kernel
theorem dX9_init_99 : decode cX9_init 99 = .ok (.invokespecial 49, 3) := by decide +kernel
theorem dX9_init_102 : decode cX9_init 102 = .ok (.aastore, 1) := by decide +kernel
theorem dX9_init_103 : decode cX9_init 103 = .ok (.aload_n 0, 1) := by decide +kernel
theorem dX9_init_104 : decode cX9_init 104 = .ok (.getfield 43, 3) := by decide +kernel
theorem dX9_init_107 : decode cX9_init 107 = .ok (.iload_n 1, 1) := by decide +kernel
theorem dX9_init_108 : decode cX9_init 108 = .ok (.new 41, 3) := by decide +kernel
theorem dX9_init_111 : decode cX9_init 111 = .ok (.dup, 1) := by decide +kernel
theorem dX9_init_112 : decode cX9_init 112 = .ok (.invokespecial 50, 3) := by decide +kernel
theorem dX9_init_115 : decode cX9_init 115 = .ok (.aastore, 1) := by decide +kernel
theorem dX9_init_116 : decode cX9_init 116 = .ok (.iinc 1 1, 3) := by decide +kernel
theorem dX9_init_119 : decode cX9_init 119 = .ok (.goto (-60), 3) := by decide +kernel
theorem dX9_init_122 : decode cX9_init 122 = .ok (.return_, 1) := by decide +kernel
theorem dX9_has_0 : decode cX9_has 0 = .ok (.iload_n 2, 1) := by decide +kernel
theorem dX9_has_1 : decode cX9_has 1 = .ok (.ifCond .lt 17, 3) := by decide +kernel
theorem dX9_has_4 : decode cX9_has 4 = .ok (.iload_n 2, 1) := by decide +kernel
theorem dX9_has_5 : decode cX9_has 5 = .ok (.aload_n 0, 1) := by decide +kernel
theorem dX9_has_6 : decode cX9_has 6 = .ok (.getfield 19, 3) := by decide +kernel
theorem dX9_has_9 : decode cX9_has 9 = .ok (.iload_n 1, 1) := by decide +kernel
theorem dX9_has_10 : decode cX9_has 10 = .ok (.iaload, 1) := by decide +kernel
theorem dX9_has_11 : decode cX9_has 11 = .ok (.if_icmp .ge 7, 3) := by decide +kernel
theorem dX9_has_14 : decode cX9_has 14 = .ok (.iconst 1, 1) := by decide +kernel
theorem dX9_has_15 : decode cX9_has 15 = .ok (.goto 4, 3) := by decide +kernel
theorem dX9_has_18 : decode cX9_has 18 = .ok (.iconst 0, 1) := by decide +kernel
theorem dX9_has_19 : decode cX9_has 19 = .ok (.ireturn, 1) := by decide +kernel
theorem dX9_append_0 : decode cX9_append 0 = .ok (.bipush 24, 2) := by decide +kernel
theorem dX9_append_2 : decode cX9_append 2 = .ok (.istore_n 2, 1) := by decide +kernel
theorem dX9_append_3 : decode cX9_append 3 = .ok (.iload_n 2, 1) := by decide +kernel
theorem dX9_append_4 : decode cX9_append 4 = .ok (.ifCond .lt 42, 3) := by decide +kernel
theorem dX9_append_7 : decode cX9_append 7 = .ok (.aload_n 0, 1) := by decide +kernel
theorem dX9_append_8 : decode cX9_append 8 = .ok (.getfield 51, 3) := by decide +kernel
theorem dX9_append_11 : decode cX9_append 11 = .ok (.sipush 600, 3) := by decide +kernel
theorem dX9_append_14 : decode cX9_append 14 = .ok (.if_icmp .ge 32, 3) := by decide +kernel
theorem dX9_append_17 : decode cX9_append 17 = .ok (.aload_n 0, 1) := by decide +kernel
theorem dX9_append_18 : decode cX9_append 18 = .ok (.getfield 9, 3) := by decide +kernel
theorem dX9_append_21 : decode cX9_append 21 = .ok (.aload_n 0, 1) := by decide +kernel
theorem dX9_append_22 : decode cX9_append 22 = .ok (.getfield 51, 3) := by decide +kernel
theorem dX9_append_25 : decode cX9_append 25 = .ok (.iload_n 1, 1) := by decide +kernel
theorem dX9_append_26 : decode cX9_append 26 = .ok (.iload_n 2, 1) := by decide +kernel
theorem dX9_append_27 : decode cX9_append 27 = .ok (.iushr, 1) := by decide +kernel
theorem dX9_append_28 : decode cX9_append 28 = .ok (.i2b, 1) := by decide +kernel
theorem dX9_append_29 : decode cX9_append 29 = .ok (.bastore, 1) := by decide +kernel
theorem dX9_append_30 : decode cX9_append 30 = .ok (.aload_n 0, 1) := by decide +kernel
theorem dX9_append_31 : decode cX9_append 31 = .ok (.dup, 1) := by decide +kernel
theorem dX9_append_32 : decode cX9_append 32 = .ok (.getfield 51, 3) := by decide +kernel
theorem dX9_append_35 : decode cX9_append 35 = .ok (.iconst 1, 1) := by decide +kernel
theorem dX9_append_36 : decode cX9_append 36 = .ok (.iadd, 1) := by decide +kernel
theorem dX9_append_37 : decode cX9_append 37 = .ok (.putfield 51, 3) := by decide +kernel
theorem dX9_append_40 : decode cX9_append 40 = .ok (.iinc 2 (-8), 3) := by decide +kernel
theorem dX9_append_43 : decode cX9_append 43 = .ok (.goto (-40), 3) := by decide +kernel
theorem dX9_append_46 : decode cX9_append 46 = .ok (.return_, 1) := by decide +kernel
theorem dX9_placeFor_0 : decode cX9_placeFor 0 = .ok (.iload_n 1, 1) := by decide +kernel
theorem dX9_placeFor_1 : decode cX9_placeFor 1 = .ok (.ifCond .lt 8, 3) := by decide +kernel
theorem dX9_placeFor_4 : decode cX9_placeFor 4 = .ok (.iload_n 1, 1) := by decide +kernel
theorem dX9_placeFor_5 : decode cX9_placeFor 5 = .ok (.iconst 4, 1) := by decide +kernel
theorem dX9_placeFor_6 : decode cX9_placeFor 6 = .ok (.if_icmp .lt 5, 3) := by decide +kernel
theorem dX9_placeFor_9 : decode cX9_placeFor 9 = .ok (.iconst (-1), 1) := by decide +kernel
theorem dX9_placeFor_10 : decode cX9_placeFor 10 = .ok (.ireturn, 1) := by decide +kernel
theorem dX9_placeFor_11 : decode cX9_placeFor 11 = .ok (.iload_n 2, 1) := by decide +kernel
theorem dX9_placeFor_12 : decode cX9_placeFor 12 = .ok (.iconst (-1), 1) := by decide +kernel
theorem dX9_placeFor_13 : decode cX9_placeFor 13 = .ok (.if_icmp .ne 24, 3) := by decide +kernel
theorem dX9_placeFor_16 : decode cX9_placeFor 16 = .ok (.aload_n 0, 1) := by decide +kernel
theorem dX9_placeFor_17 : decode cX9_placeFor 17 = .ok (.getfield 19, 3) := by decide +kernel
theorem dX9_placeFor_20 : decode cX9_placeFor 20 = .ok (.iload_n 1, 1) := by decide +kernel
theorem dX9_placeFor_21 : decode cX9_placeFor 21 = .ok (.iaload, 1) := by decide +kernel
theorem dX9_placeFor_22 : decode cX9_placeFor 22 = .ok (.iconst 2, 1) := by decide +kernel
theorem dX9_placeFor_23 : decode cX9_placeFor 23 = .ok (.if_icmp .ge 12, 3) := by decide +kernel
theorem dX9_placeFor_26 : decode cX9_placeFor 26 = .ok (.aload_n 0, 1) := by decide +kernel
theorem dX9_placeFor_27 : decode cX9_placeFor 27 = .ok (.getfield 19, 3) := by decide +kernel
theorem dX9_placeFor_30 : decode cX9_placeFor 30 = .ok (.iload_n 1, 1) := by decide +kernel
theorem dX9_placeFor_31 : decode cX9_placeFor 31 = .ok (.iaload, 1) := by decide +kernel
theorem dX9_placeFor_32 : decode cX9_placeFor 32 = .ok (.goto 4, 3) := by decide +kernel
theorem dX9_placeFor_35 : decode cX9_placeFor 35 = .ok (.iconst (-1), 1) := by decide +kernel
theorem dX9_placeFor_36 : decode cX9_placeFor 36 = .ok (.ireturn, 1) := by decide +kernel
theorem dX9_placeFor_37 : decode cX9_placeFor 37 = .ok (.aload_n 0, 1) := by decide +kernel
theorem dX9_placeFor_38 : decode cX9_placeFor 38 = .ok (.iload_n 1, 1) := by decide +kernel
theorem dX9_placeFor_39 : decode cX9_placeFor 39 = .ok (.iload_n 2, 1) := by decide +kernel
theorem dX9_placeFor_40 : decode cX9_placeFor 40 = .ok (.invokevirtual 54, 3) := by decide +kernel
theorem dX9_placeFor_43 : decode cX9_placeFor 43 = .ok (.ifCond .eq 7, 3) := by decide +kernel
theorem dX9_placeFor_46 : decode cX9_placeFor 46 = .ok (.iload_n 2, 1) := by decide +kernel
theorem dX9_placeFor_47 : decode cX9_placeFor 47 = .ok (.goto 4, 3) := by decide +kernel
theorem dX9_placeFor_50 : decode cX9_placeFor 50 = .ok (.iconst (-1), 1) := by decide +kernel
theorem dX9_placeFor_51 : decode cX9_placeFor 51 = .ok (.ireturn, 1) := by decide +kernel
theorem dX9_clearPlace_0 : decode cX9_clearPlace 0 = .ok (.iload_n 1, 1) := by decide +kernel
theorem dX9_clearPlace_1 : decode cX9_clearPlace 1 = .ok (.ifCond .ne 15, 3) := by decide +kernel
theorem dX9_clearPlace_4 : decode cX9_clearPlace 4 = .ok (.aload_n 0, 1) := by decide +kernel
theorem dX9_clearPlace_5 : decode cX9_clearPlace 5 = .ok (.getfield 25, 3) := by decide +kernel
theorem dX9_clearPlace_8 : decode cX9_clearPlace 8 = .ok (.iload_n 2, 1) := by decide +kernel
theorem dX9_clearPlace_9 : decode cX9_clearPlace 9 = .ok (.aaload, 1) := by decide +kernel
theorem dX9_clearPlace_10 : decode cX9_clearPlace 10 = .ok (.invokevirtual 58, 3) := by decide +kernel
theorem dX9_clearPlace_13 : decode cX9_clearPlace 13 = .ok (.goto 49, 3) := by decide +kernel
theorem dX9_clearPlace_16 : decode cX9_clearPlace 16 = .ok (.iload_n 1, 1) := by decide +kernel
theorem dX9_clearPlace_17 : decode cX9_clearPlace 17 = .ok (.iconst 1, 1) := by decide +kernel
theorem dX9_clearPlace_18 : decode cX9_clearPlace 18 = .ok (.if_icmp .ne 16, 3) := by decide +kernel
theorem dX9_clearPlace_21 : decode cX9_clearPlace 21 = .ok (.aload_n 0, 1) := by decide +kernel
theorem dX9_clearPlace_22 : decode cX9_clearPlace 22 = .ok (.getfield 31, 3) := by decide +kernel
theorem dX9_clearPlace_25 : decode cX9_clearPlace 25 = .ok (.iload_n 2, 1) := by decide +kernel
theorem dX9_clearPlace_26 : decode cX9_clearPlace 26 = .ok (.aaload, 1) := by decide +kernel
theorem dX9_clearPlace_27 : decode cX9_clearPlace 27 = .ok (.iconst 0, 1) := by decide +kernel
theorem dX9_clearPlace_28 : decode cX9_clearPlace 28 = .ok (.putfield 61, 3) := by decide +kernel
theorem dX9_clearPlace_31 : decode cX9_clearPlace 31 = .ok (.goto 31, 3) := by decide +kernel
theorem dX9_clearPlace_34 : decode cX9_clearPlace 34 = .ok (.iload_n 1, 1) := by decide +kernel
theorem dX9_clearPlace_35 : decode cX9_clearPlace 35 = .ok (.iconst 2, 1) := by decide +kernel
theorem dX9_clearPlace_36 : decode cX9_clearPlace 36 = .ok (.if_icmp .ne 16, 3) := by decide +kernel
theorem dX9_clearPlace_39 : decode cX9_clearPlace 39 = .ok (.aload_n 0, 1) := by decide +kernel
theorem dX9_clearPlace_40 : decode cX9_clearPlace 40 = .ok (.getfield 37, 3) := by decide +kernel
theorem dX9_clearPlace_43 : decode cX9_clearPlace 43 = .ok (.iload_n 2, 1) := by decide +kernel
theorem dX9_clearPlace_44 : decode cX9_clearPlace 44 = .ok (.aaload, 1) := by decide +kernel
theorem dX9_clearPlace_45 : decode cX9_clearPlace 45 = .ok (.iconst 0, 1) := by decide +kernel
theorem dX9_clearPlace_46 : decode cX9_clearPlace 46 = .ok (.putfield 64, 3) := by decide +kernel
theorem dX9_clearPlace_49 : decode cX9_clearPlace 49 = .ok (.goto 13, 3) := by decide +kernel
theorem dX9_clearPlace_52 : decode cX9_clearPlace 52 = .ok (.aload_n 0, 1) := by decide +kernel
theorem dX9_clearPlace_53 : decode cX9_clearPlace 53 = .ok (.getfield 43, 3) := by decide +kernel
theorem dX9_clearPlace_56 : decode cX9_clearPlace 56 = .ok (.iload_n 2, 1) := by decide +kernel
theorem dX9_clearPlace_57 : decode cX9_clearPlace 57 = .ok (.aaload, 1) := by decide +kernel
theorem dX9_clearPlace_58 : decode cX9_clearPlace 58 = .ok (.iconst 0, 1) := by decide +kernel
theorem dX9_clearPlace_59 : decode cX9_clearPlace 59 = .ok (.putfield 65, 3) := by decide +kernel
theorem dX9_clearPlace_62 : decode cX9_clearPlace 62 = .ok (.return_, 1) := by decide +kernel
theorem dX9_takeLine_0 : decode cX9_takeLine 0 = .ok (.iload_n 1, 1) := by decide +kernel
theorem dX9_takeLine_1 : decode cX9_takeLine 1 = .ok (.ifCond .ne 20, 3) := by decide +kernel
theorem dX9_takeLine_4 : decode cX9_takeLine 4 = .ok (.aload_n 0, 1) := by decide +kernel
theorem dX9_takeLine_5 : decode cX9_takeLine 5 = .ok (.getfield 25, 3) := by decide +kernel
theorem dX9_takeLine_8 : decode cX9_takeLine 8 = .ok (.iload_n 2, 1) := by decide +kernel
theorem dX9_takeLine_9 : decode cX9_takeLine 9 = .ok (.aaload, 1) := by decide +kernel
theorem dX9_takeLine_10 : decode cX9_takeLine 10 = .ok (.iload_n 3, 1) := by decide +kernel
theorem dX9_takeLine_11 : decode cX9_takeLine 11 = .ok (.iload 4, 2) := by decide +kernel
theorem dX9_takeLine_13 : decode cX9_takeLine 13 = .ok (.iload 5, 2) := by decide +kernel
theorem dX9_takeLine_15 : decode cX9_takeLine 15 = .ok (.invokevirtual 66, 3) := by decide +kernel
theorem dX9_takeLine_18 : decode cX9_takeLine 18 = .ok (.goto 60, 3) := by decide +kernel
theorem dX9_takeLine_21 : decode cX9_takeLine 21 = .ok (.iload_n 1, 1) := by decide +kernel
theorem dX9_takeLine_22 : decode cX9_takeLine 22 = .ok (.iconst 1, 1) := by decide +kernel
theorem dX9_takeLine_23 : decode cX9_takeLine 23 = .ok (.if_icmp .ne 20, 3) := by decide +kernel
theorem dX9_takeLine_26 : decode cX9_takeLine 26 = .ok (.aload_n 0, 1) := by decide +kernel
theorem dX9_takeLine_27 : decode cX9_takeLine 27 = .ok (.getfield 31, 3) := by decide +kernel
theorem dX9_takeLine_30 : decode cX9_takeLine 30 = .ok (.iload_n 2, 1) := by decide +kernel
theorem dX9_takeLine_31 : decode cX9_takeLine 31 = .ok (.aaload, 1) := by decide +kernel
theorem dX9_takeLine_32 : decode cX9_takeLine 32 = .ok (.iload_n 3, 1) := by decide +kernel
theorem dX9_takeLine_33 : decode cX9_takeLine 33 = .ok (.iload 4, 2) := by decide +kernel
theorem dX9_takeLine_35 : decode cX9_takeLine 35 = .ok (.iload 5, 2) := by decide +kernel
theorem dX9_takeLine_37 : decode cX9_takeLine 37 = .ok (.invokevirtual 70, 3) := by decide +kernel
theorem dX9_takeLine_40 : decode cX9_takeLine 40 = .ok (.goto 38, 3) := by decide +kernel
theorem dX9_takeLine_43 : decode cX9_takeLine 43 = .ok (.iload_n 1, 1) := by decide +kernel
theorem dX9_takeLine_44 : decode cX9_takeLine 44 = .ok (.iconst 2, 1) := by decide +kernel
theorem dX9_takeLine_45 : decode cX9_takeLine 45 = .ok (.if_icmp .ne 20, 3) := by decide +kernel
theorem dX9_takeLine_48 : decode cX9_takeLine 48 = .ok (.aload_n 0, 1) := by decide +kernel
theorem dX9_takeLine_49 : decode cX9_takeLine 49 = .ok (.getfield 37, 3) := by decide +kernel
theorem dX9_takeLine_52 : decode cX9_takeLine 52 = .ok (.iload_n 2, 1) := by decide +kernel
theorem dX9_takeLine_53 : decode cX9_takeLine 53 = .ok (.aaload, 1) := by decide +kernel
theorem dX9_takeLine_54 : decode cX9_takeLine 54 = .ok (.iload_n 3, 1) := by decide +kernel
theorem dX9_takeLine_55 : decode cX9_takeLine 55 = .ok (.iload 4, 2) := by decide +kernel
theorem dX9_takeLine_57 : decode cX9_takeLine 57 = .ok (.iload 5, 2) := by decide +kernel
theorem dX9_takeLine_59 : decode cX9_takeLine 59 = .ok (.invokevirtual 71, 3) := by decide +kernel
theorem dX9_takeLine_62 : decode cX9_takeLine 62 = .ok (.goto 16, 3) := by decide +kernel
theorem dX9_takeLine_65 : decode cX9_takeLine 65 = .ok (.aload_n 0, 1) := by decide +kernel
theorem dX9_takeLine_66 : decode cX9_takeLine 66 = .ok (.getfield 43, 3) := by decide +kernel
theorem dX9_takeLine_69 : decode cX9_takeLine 69 = .ok (.iload_n 2, 1) := by decide +kernel
theorem dX9_takeLine_70 : decode cX9_takeLine 70 = .ok (.aaload, 1) := by decide +kernel
theorem dX9_takeLine_71 : decode cX9_takeLine 71 = .ok (.iload 4, 2) := by decide +kernel
theorem dX9_takeLine_73 : decode cX9_takeLine 73 = .ok (.iload 5, 2) := by decide +kernel
theorem dX9_takeLine_75 : decode cX9_takeLine 75 = .ok (.invokevirtual 72, 3) := by decide +kernel
theorem dX9_takeLine_78 : decode cX9_takeLine 78 = .ok (.return_, 1) := by decide +kernel
theorem dX9_copyFrom_0 : decode cX9_copyFrom 0 = .ok (.aload_n 1, 1) := by decide +kernel
theorem dX9_copyFrom_1 : decode cX9_copyFrom 1 = .ok (.getfield 9, 3) := by decide +kernel
theorem dX9_copyFrom_4 : decode cX9_copyFrom 4 = .ok (.iconst 0, 1) := by decide +kernel
theorem dX9_copyFrom_5 : decode cX9_copyFrom 5 = .ok (.aload_n 0, 1) := by decide +kernel
theorem dX9_copyFrom_6 : decode cX9_copyFrom 6 = .ok (.getfield 9, 3) := by decide +kernel
theorem dX9_copyFrom_9 : decode cX9_copyFrom 9 = .ok (.iconst 0, 1) := by decide +kernel
theorem dX9_copyFrom_10 : decode cX9_copyFrom 10 = .ok (.sipush 600, 3) := by decide +kernel
theorem dX9_copyFrom_13 : decode cX9_copyFrom 13 = .ok (.invokestatic 75, 3) := by decide +kernel
theorem dX9_copyFrom_16 : decode cX9_copyFrom 16 = .ok (.aload_n 0, 1) := by decide +kernel
theorem dX9_copyFrom_17 : decode cX9_copyFrom 17 = .ok (.aload_n 1, 1) := by decide +kernel
theorem dX9_copyFrom_18 : decode cX9_copyFrom 18 = .ok (.getfield 51, 3) := by decide +kernel
theorem dX9_copyFrom_21 : decode cX9_copyFrom 21 = .ok (.putfield 51, 3) := by decide +kernel
theorem dX9_copyFrom_24 : decode cX9_copyFrom 24 = .ok (.aload_n 0, 1) := by decide +kernel
theorem dX9_copyFrom_25 : decode cX9_copyFrom 25 = .ok (.aload_n 1, 1) := by decide +kernel
theorem dX9_copyFrom_26 : decode cX9_copyFrom 26 = .ok (.getfield 81, 3) := by decide +kernel
theorem dX9_copyFrom_29 : decode cX9_copyFrom 29 = .ok (.putfield 81, 3) := by decide +kernel
theorem dX9_copyFrom_32 : decode cX9_copyFrom 32 = .ok (.aload_n 0, 1) := by decide +kernel
theorem dX9_copyFrom_33 : decode cX9_copyFrom 33 = .ok (.aload_n 1, 1) := by decide +kernel
theorem dX9_copyFrom_34 : decode cX9_copyFrom 34 = .ok (.getfield 15, 3) := by decide +kernel
theorem dX9_copyFrom_37 : decode cX9_copyFrom 37 = .ok (.putfield 15, 3) := by decide +kernel
theorem dX9_copyFrom_40 : decode cX9_copyFrom 40 = .ok (.aload_n 1, 1) := by decide +kernel
theorem dX9_copyFrom_41 : decode cX9_copyFrom 41 = .ok (.getfield 19, 3) := by decide +kernel
theorem dX9_copyFrom_44 : decode cX9_copyFrom 44 = .ok (.iconst 0, 1) := by decide +kernel
theorem dX9_copyFrom_45 : decode cX9_copyFrom 45 = .ok (.aload_n 0, 1) := by decide +kernel
theorem dX9_copyFrom_46 : decode cX9_copyFrom 46 = .ok (.getfield 19, 3) := by decide +kernel
theorem dX9_copyFrom_49 : decode cX9_copyFrom 49 = .ok (.iconst 0, 1) := by decide +kernel
theorem dX9_copyFrom_50 : decode cX9_copyFrom 50 = .ok (.iconst 4, 1) := by decide +kernel
theorem dX9_copyFrom_51 : decode cX9_copyFrom 51 = .ok (.invokestatic 75, 3) := by decide +kernel
theorem dX9_copyFrom_54 : decode cX9_copyFrom 54 = .ok (.iconst 0, 1) := by decide +kernel
theorem dX9_copyFrom_55 : decode cX9_copyFrom 55 = .ok (.istore_n 2, 1) := by decide +kernel
theorem dX9_copyFrom_56 : decode cX9_copyFrom 56 = .ok (.iload_n 2, 1) := by decide +kernel
theorem dX9_copyFrom_57 : decode cX9_copyFrom 57 = .ok (.iconst 2, 1) := by decide +kernel
theorem dX9_copyFrom_58 : decode cX9_copyFrom 58 = .ok (.if_icmp .ge 69, 3) := by decide +kernel
theorem dX9_copyFrom_61 : decode cX9_copyFrom 61 = .ok (.aload_n 0, 1) := by decide +kernel
theorem dX9_copyFrom_62 : decode cX9_copyFrom 62 = .ok (.getfield 25, 3) := by decide +kernel
theorem dX9_copyFrom_65 : decode cX9_copyFrom 65 = .ok (.iload_n 2, 1) := by decide +kernel
theorem dX9_copyFrom_66 : decode cX9_copyFrom 66 = .ok (.aaload, 1) := by decide +kernel
theorem dX9_copyFrom_67 : decode cX9_copyFrom 67 = .ok (.aload_n 1, 1) := by decide +kernel
theorem dX9_copyFrom_68 : decode cX9_copyFrom 68 = .ok (.getfield 25, 3) := by decide +kernel
theorem dX9_copyFrom_71 : decode cX9_copyFrom 71 = .ok (.iload_n 2, 1) := by decide +kernel
theorem dX9_copyFrom_72 : decode cX9_copyFrom 72 = .ok (.aaload, 1) := by decide +kernel
theorem dX9_copyFrom_73 : decode cX9_copyFrom 73 = .ok (.invokevirtual 84, 3) := by decide +kernel
theorem dX9_copyFrom_76 : decode cX9_copyFrom 76 = .ok (.aload_n 0, 1) := by decide +kernel
theorem dX9_copyFrom_77 : decode cX9_copyFrom 77 = .ok (.getfield 31, 3) := by decide +kernel
theorem dX9_copyFrom_80 : decode cX9_copyFrom 80 = .ok (.iload_n 2, 1) := by decide +kernel
theorem dX9_copyFrom_81 : decode cX9_copyFrom 81 = .ok (.aaload, 1) := by decide +kernel
theorem dX9_copyFrom_82 : decode cX9_copyFrom 82 = .ok (.aload_n 1, 1) := by decide +kernel
theorem dX9_copyFrom_83 : decode cX9_copyFrom 83 = .ok (.getfield 31, 3) := by decide +kernel
theorem dX9_copyFrom_86 : decode cX9_copyFrom 86 = .ok (.iload_n 2, 1) := by decide +kernel
theorem dX9_copyFrom_87 : decode cX9_copyFrom 87 = .ok (.aaload, 1) := by decide +kernel
theorem dX9_copyFrom_88 : decode cX9_copyFrom 88 = .ok (.invokevirtual 88, 3) := by decide +kernel
theorem dX9_copyFrom_91 : decode cX9_copyFrom 91 = .ok (.aload_n 0, 1) := by decide +kernel
theorem dX9_copyFrom_92 : decode cX9_copyFrom 92 = .ok (.getfield 37, 3) := by decide +kernel
theorem dX9_copyFrom_95 : decode cX9_copyFrom 95 = .ok (.iload_n 2, 1) := by decide +kernel
theorem dX9_copyFrom_96 : decode cX9_copyFrom 96 = .ok (.aaload, 1) := by decide +kernel
theorem dX9_copyFrom_97 : decode cX9_copyFrom 97 = .ok (.aload_n 1, 1) := by decide +kernel
theorem dX9_copyFrom_98 : decode cX9_copyFrom 98 = .ok (.getfield 37, 3) := by decide +kernel
theorem dX9_copyFrom_101 : decode cX9_copyFrom 101 = .ok (.iload_n 2, 1) := by decide +kernel
theorem dX9_copyFrom_102 : decode cX9_copyFrom 102 = .ok (.aaload, 1) := by decide +kernel
theorem dX9_copyFrom_103 : decode cX9_copyFrom 103 = .ok (.invokevirtual 91, 3) := by decide +kernel
theorem dX9_copyFrom_106 : decode cX9_copyFrom 106 = .ok (.aload_n 0, 1) := by decide +kernel
theorem dX9_copyFrom_107 : decode cX9_copyFrom 107 = .ok (.getfield 43, 3) := by decide +kernel
theorem dX9_copyFrom_110 : decode cX9_copyFrom 110 = .ok (.iload_n 2, 1) := by decide +kernel
theorem dX9_copyFrom_111 : decode cX9_copyFrom 111 = .ok (.aaload, 1) := by decide +kernel
theorem dX9_copyFrom_112 : decode cX9_copyFrom 112 = .ok (.aload_n 1, 1) := by decide +kernel
theorem dX9_copyFrom_113 : decode cX9_copyFrom 113 = .ok (.getfield 43, 3) := by decide +kernel
theorem dX9_copyFrom_116 : decode cX9_copyFrom 116 = .ok (.iload_n 2, 1) := by decide +kernel
theorem dX9_copyFrom_117 : decode cX9_copyFrom 117 = .ok (.aaload, 1) := by decide +kernel
theorem dX9_copyFrom_118 : decode cX9_copyFrom 118 = .ok (.invokevirtual 94, 3) := by decide +kernel
theorem dX9_copyFrom_121 : decode cX9_copyFrom 121 = .ok (.iinc 2 1, 3) := by decide +kernel
theorem dX9_copyFrom_124 : decode cX9_copyFrom 124 = .ok (.goto (-68), 3) := by decide +kernel
theorem dX9_copyFrom_127 : decode cX9_copyFrom 127 = .ok (.return_, 1) := by decide +kernel
theorem dX10_init_0 : decode cX10_init 0 = .ok (.aload_n 0, 1) := by decide +kernel
theorem dX10_init_1 : decode cX10_init 1 = .ok (.invokespecial 3, 3) := by decide +kernel
theorem dX10_init_4 : decode cX10_init 4 = .ok (.aload_n 0, 1) := by decide +kernel
theorem dX10_init_5 : decode cX10_init 5 = .ok (.bipush 10, 2) := by decide +kernel
theorem dX10_init_7 : decode cX10_init 7 = .ok (.newarray .int, 2) := by decide +kernel
theorem dX10_init_9 : decode cX10_init 9 = .ok (.putfield 9, 3) := by decide +kernel
theorem dX10_init_12 : decode cX10_init 12 = .ok (.aload_n 0, 1) := by decide +kernel
theorem dX10_init_13 : decode cX10_init 13 = .ok (.bipush 10, 2) := by decide +kernel
theorem dX10_init_15 : decode cX10_init 15 = .ok (.newarray .int, 2) := by decide +kernel
theorem dX10_init_17 : decode cX10_init 17 = .ok (.putfield 15, 3) := by decide +kernel
theorem dX10_init_20 : decode cX10_init 20 = .ok (.aload_n 0, 1) := by decide +kernel
theorem dX10_init_21 : decode cX10_init 21 = .ok (.bipush 10, 2) := by decide +kernel
theorem dX10_init_23 : decode cX10_init 23 = .ok (.newarray .int, 2) := by decide +kernel
theorem dX10_init_25 : decode cX10_init 25 = .ok (.putfield 18, 3) := by decide +kernel
theorem dX10_init_28 : decode cX10_init 28 = .ok (.return_, 1) := by decide +kernel
theorem dX10_reset_0 : decode cX10_reset 0 = .ok (.aload_n 0, 1) := by decide +kernel
theorem dX10_reset_1 : decode cX10_reset 1 = .ok (.invokevirtual 21, 3) := by decide +kernel
theorem dX10_reset_4 : decode cX10_reset 4 = .ok (.aload_n 0, 1) := by decide +kernel
theorem dX10_reset_5 : decode cX10_reset 5 = .ok (.iconst 0, 1) := by decide +kernel
theorem dX10_reset_6 : decode cX10_reset 6 = .ok (.putfield 24, 3) := by decide +kernel
theorem dX10_reset_9 : decode cX10_reset 9 = .ok (.aload_n 0, 1) := by decide +kernel
theorem dX10_reset_10 : decode cX10_reset 10 = .ok (.iload_n 1, 1) := by decide +kernel
theorem dX10_reset_11 : decode cX10_reset 11 = .ok (.putfield 28, 3) := by decide +kernel
theorem dX10_reset_14 : decode cX10_reset 14 = .ok (.return_, 1) := by decide +kernel
theorem dX10_rest_0 : decode cX10_rest 0 = .ok (.aload_n 0, 1) := by decide +kernel
theorem dX10_rest_1 : decode cX10_rest 1 = .ok (.iconst (-1), 1) := by decide +kernel
theorem dX10_rest_2 : decode cX10_rest 2 = .ok (.iconst 0, 1) := by decide +kernel
theorem dX10_rest_3 : decode cX10_rest 3 = .ok (.invokevirtual 31, 3) := by decide +kernel
theorem dX10_rest_6 : decode cX10_rest 6 = .ok (.return_, 1) := by decide +kernel
theorem dX10_take_0 : decode cX10_take 0 = .ok (.aload_n 0, 1) := by decide +kernel
theorem dX10_take_1 : decode cX10_take 1 = .ok (.iload_n 1, 1) := by decide +kernel
theorem dX10_take_2 : decode cX10_take 2 = .ok (.putfield 35, 3) := by decide +kernel
theorem dX10_take_5 : decode cX10_take 5 = .ok (.aload_n 0, 1) := by decide +kernel
theorem dX10_take_6 : decode cX10_take 6 = .ok (.iload_n 2, 1) := by decide +kernel
theorem dX10_take_7 : decode cX10_take 7 = .ok (.putfield 38, 3) := by decide +kernel
theorem dX10_take_10 : decode cX10_take 10 = .ok (.aload_n 0, 1) := by decide +kernel
theorem dX10_take_11 : decode cX10_take 11 = .ok (.iconst 0, 1) := by decide +kernel
theorem dX10_take_12 : decode cX10_take 12 = .ok (.putfield 41, 3) := by decide +kernel
theorem dX10_take_15 : decode cX10_take 15 = .ok (.aload_n 0, 1) := by decide +kernel
theorem dX10_take_16 : decode cX10_take 16 = .ok (.iconst 0, 1) := by decide +kernel
theorem dX10_take_17 : decode cX10_take 17 = .ok (.putfield 44, 3) := by decide +kernel
theorem dX10_take_20 : decode cX10_take 20 = .ok (.aload_n 0, 1) := by decide +kernel
theorem dX10_take_21 : decode cX10_take 21 = .ok (.iconst 0, 1) := by decide +kernel
theorem dX10_take_22 : decode cX10_take 22 = .ok (.putfield 47, 3) := by decide +kernel
theorem dX10_take_25 : decode cX10_take 25 = .ok (.aload_n 0, 1) := by decide +kernel
theorem dX10_take_26 : decode cX10_take 26 = .ok (.iconst 0, 1) := by decide +kernel
theorem dX10_take_27 : decode cX10_take 27 = .ok (.putfield 50, 3) := by decide +kernel
theorem dX10_take_30 : decode cX10_take 30 = .ok (.aload_n 0, 1) := by decide +kernel
theorem dX10_take_31 : decode cX10_take 31 = .ok (.iconst 0, 1) := by decide +kernel
theorem dX10_take_32 : decode cX10_take 32 = .ok (.putfield 53, 3) := by decide +kernel
theorem dX10_take_35 : decode cX10_take 35 = .ok (.return_, 1) := by decide +kernel
theorem dX10_noteRead_0 : decode cX10_noteRead 0 = .ok (.aload_n 0, 1) := by decide +kernel
theorem dX10_noteRead_1 : decode cX10_noteRead 1 = .ok (.getfield 47, 3) := by decide +kernel
theorem dX10_noteRead_4 : decode cX10_noteRead 4 = .ok (.iload_n 1, 1) := by decide +kernel
theorem dX10_noteRead_5 : decode cX10_noteRead 5 = .ok (.ishr, 1) := by decide +kernel
theorem dX10_noteRead_6 : decode cX10_noteRead 6 = .ok (.iconst 1, 1) := by decide +kernel
theorem dX10_noteRead_7 : decode cX10_noteRead 7 = .ok (.iand, 1) := by decide +kernel
theorem dX10_noteRead_8 : decode cX10_noteRead 8 = .ok (.ifCond .ne 22, 3) := by decide +kernel
theorem dX10_noteRead_11 : decode cX10_noteRead 11 = .ok (.aload_n 0, 1) := by decide +kernel
theorem dX10_noteRead_12 : decode cX10_noteRead 12 = .ok (.dup, 1) := by decide +kernel
theorem dX10_noteRead_13 : decode cX10_noteRead 13 = .ok (.getfield 47, 3) := by decide +kernel
theorem dX10_noteRead_16 : decode cX10_noteRead 16 = .ok (.iconst 1, 1) := by decide +kernel
theorem dX10_noteRead_17 : decode cX10_noteRead 17 = .ok (.iload_n 1, 1) := by decide +kernel
theorem dX10_noteRead_18 : decode cX10_noteRead 18 = .ok (.ishl, 1) := by decide +kernel
theorem dX10_noteRead_19 : decode cX10_noteRead 19 = .ok (.ior, 1) := by decide +kernel
theorem dX10_noteRead_20 : decode cX10_noteRead 20 = .ok (.putfield 47, 3) := by decide +kernel
theorem dX10_noteRead_23 : decode cX10_noteRead 23 = .ok (.aload_n 0, 1) := by decide +kernel
theorem dX10_noteRead_24 : decode cX10_noteRead 24 = .ok (.getfield 9, 3) := by decide +kernel
theorem dX10_noteRead_27 : decode cX10_noteRead 27 = .ok (.iload_n 1, 1) := by decide +kernel
theorem dX10_noteRead_28 : decode cX10_noteRead 28 = .ok (.iload_n 2, 1) := by decide +kernel
theorem dX10_noteRead_29 : decode cX10_noteRead 29 = .ok (.iastore, 1) := by decide +kernel
theorem dX10_noteRead_30 : decode cX10_noteRead 30 = .ok (.return_, 1) := by decide +kernel
theorem dX10_noteGuard_0 : decode cX10_noteGuard 0 = .ok (.aload_n 0, 1) := by decide +kernel
theorem dX10_noteGuard_1 : decode cX10_noteGuard 1 = .ok (.getfield 50, 3) := by decide +kernel
theorem dX10_noteGuard_4 : decode cX10_noteGuard 4 = .ok (.iload_n 1, 1) := by decide +kernel
theorem dX10_noteGuard_5 : decode cX10_noteGuard 5 = .ok (.ishr, 1) := by decide +kernel
theorem dX10_noteGuard_6 : decode cX10_noteGuard 6 = .ok (.iconst 1, 1) := by decide +kernel
theorem dX10_noteGuard_7 : decode cX10_noteGuard 7 = .ok (.iand, 1) := by decide +kernel
theorem dX10_noteGuard_8 : decode cX10_noteGuard 8 = .ok (.ifCond .ne 22, 3) := by decide +kernel
theorem dX10_noteGuard_11 : decode cX10_noteGuard 11 = .ok (.aload_n 0, 1) := by decide +kernel
theorem dX10_noteGuard_12 : decode cX10_noteGuard 12 = .ok (.dup, 1) := by decide +kernel
theorem dX10_noteGuard_13 : decode cX10_noteGuard 13 = .ok (.getfield 50, 3) := by decide +kernel
theorem dX10_noteGuard_16 : decode cX10_noteGuard 16 = .ok (.iconst 1, 1) := by decide +kernel
theorem dX10_noteGuard_17 : decode cX10_noteGuard 17 = .ok (.iload_n 1, 1) := by decide +kernel
theorem dX10_noteGuard_18 : decode cX10_noteGuard 18 = .ok (.ishl, 1) := by decide +kernel
theorem dX10_noteGuard_19 : decode cX10_noteGuard 19 = .ok (.ior, 1) := by decide +kernel
theorem dX10_noteGuard_20 : decode cX10_noteGuard 20 = .ok (.putfield 50, 3) := by decide +kernel
theorem dX10_noteGuard_23 : decode cX10_noteGuard 23 = .ok (.aload_n 0, 1) := by decide +kernel
theorem dX10_noteGuard_24 : decode cX10_noteGuard 24 = .ok (.getfield 15, 3) := by decide +kernel
theorem dX10_noteGuard_27 : decode cX10_noteGuard 27 = .ok (.iload_n 1, 1) := by decide +kernel
theorem dX10_noteGuard_28 : decode cX10_noteGuard 28 = .ok (.iload_n 2, 1) := by decide +kernel
theorem dX10_noteGuard_29 : decode cX10_noteGuard 29 = .ok (.iastore, 1) := by decide +kernel
theorem dX10_noteGuard_30 : decode cX10_noteGuard 30 = .ok (.return_, 1) := by decide +kernel
theorem dX10_write_0 : decode cX10_write 0 = .ok (.aload_n 0, 1) := by decide +kernel
theorem dX10_write_1 : decode cX10_write 1 = .ok (.dup, 1) := by decide +kernel
theorem dX10_write_2 : decode cX10_write 2 = .ok (.getfield 53, 3) := by decide +kernel
theorem dX10_write_5 : decode cX10_write 5 = .ok (.iconst 1, 1) := by decide +kernel
theorem dX10_write_6 : decode cX10_write 6 = .ok (.iload_n 1, 1) := by decide +kernel
theorem dX10_write_7 : decode cX10_write 7 = .ok (.ishl, 1) := by decide +kernel
theorem dX10_write_8 : decode cX10_write 8 = .ok (.ior, 1) := by decide +kernel
theorem dX10_write_9 : decode cX10_write 9 = .ok (.putfield 53, 3) := by decide +kernel
theorem dX10_write_12 : decode cX10_write 12 = .ok (.aload_n 0, 1) := by decide +kernel
theorem dX10_write_13 : decode cX10_write 13 = .ok (.getfield 18, 3) := by decide +kernel
theorem dX10_write_16 : decode cX10_write 16 = .ok (.iload_n 1, 1) := by decide +kernel
theorem dX10_write_17 : decode cX10_write 17 = .ok (.iload_n 2, 1) := by decide +kernel
theorem dX10_write_18 : decode cX10_write 18 = .ok (.iastore, 1) := by decide +kernel
theorem dX10_write_19 : decode cX10_write 19 = .ok (.return_, 1) := by decide +kernel
