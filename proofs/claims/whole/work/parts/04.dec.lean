theorem dX0_init_0 : decode cX0_init 0 = .ok (.aload_n 0, 1) := by decide +kernel
theorem dX0_init_1 : decode cX0_init 1 = .ok (.invokespecial 3, 3) := by decide +kernel
theorem dX0_init_4 : decode cX0_init 4 = .ok (.aload_n 0, 1) := by decide +kernel
theorem dX0_init_5 : decode cX0_init 5 = .ok (.new 9, 3) := by decide +kernel
theorem dX0_init_8 : decode cX0_init 8 = .ok (.dup, 1) := by decide +kernel
theorem dX0_init_9 : decode cX0_init 9 = .ok (.iconst 4, 1) := by decide +kernel
theorem dX0_init_10 : decode cX0_init 10 = .ok (.bipush 10, 2) := by decide +kernel
theorem dX0_init_12 : decode cX0_init 12 = .ok (.invokespecial 11, 3) := by decide +kernel
theorem dX0_init_15 : decode cX0_init 15 = .ok (.putfield 14, 3) := by decide +kernel
theorem dX0_init_18 : decode cX0_init 18 = .ok (.aload_n 0, 1) := by decide +kernel
theorem dX0_init_19 : decode cX0_init 19 = .ok (.new 9, 3) := by decide +kernel
theorem dX0_init_22 : decode cX0_init 22 = .ok (.dup, 1) := by decide +kernel
theorem dX0_init_23 : decode cX0_init 23 = .ok (.bipush 7, 2) := by decide +kernel
theorem dX0_init_25 : decode cX0_init 25 = .ok (.bipush 30, 2) := by decide +kernel
theorem dX0_init_27 : decode cX0_init 27 = .ok (.invokespecial 11, 3) := by decide +kernel
theorem dX0_init_30 : decode cX0_init 30 = .ok (.putfield 20, 3) := by decide +kernel
theorem dX0_init_33 : decode cX0_init 33 = .ok (.aload_n 0, 1) := by decide +kernel
theorem dX0_init_34 : decode cX0_init 34 = .ok (.new 9, 3) := by decide +kernel
theorem dX0_init_37 : decode cX0_init 37 = .ok (.dup, 1) := by decide +kernel
theorem dX0_init_38 : decode cX0_init 38 = .ok (.iconst 1, 1) := by decide +kernel
theorem dX0_init_39 : decode cX0_init 39 = .ok (.bipush 17, 2) := by decide +kernel
theorem dX0_init_41 : decode cX0_init 41 = .ok (.invokespecial 11, 3) := by decide +kernel
theorem dX0_init_44 : decode cX0_init 44 = .ok (.putfield 23, 3) := by decide +kernel
theorem dX0_init_47 : decode cX0_init 47 = .ok (.aload_n 0, 1) := by decide +kernel
theorem dX0_init_48 : decode cX0_init 48 = .ok (.new 9, 3) := by decide +kernel
theorem dX0_init_51 : decode cX0_init 51 = .ok (.dup, 1) := by decide +kernel
theorem dX0_init_52 : decode cX0_init 52 = .ok (.iconst 4, 1) := by decide +kernel
theorem dX0_init_53 : decode cX0_init 53 = .ok (.bipush 20, 2) := by decide +kernel
theorem dX0_init_55 : decode cX0_init 55 = .ok (.invokespecial 11, 3) := by decide +kernel
theorem dX0_init_58 : decode cX0_init 58 = .ok (.putfield 26, 3) := by decide +kernel
theorem dX0_init_61 : decode cX0_init 61 = .ok (.aload_n 0, 1) := by decide +kernel
theorem dX0_init_62 : decode cX0_init 62 = .ok (.new 9, 3) := by decide +kernel
theorem dX0_init_65 : decode cX0_init 65 = .ok (.dup, 1) := by decide +kernel
theorem dX0_init_66 : decode cX0_init 66 = .ok (.iconst 4, 1) := by decide +kernel
theorem dX0_init_67 : decode cX0_init 67 = .ok (.bipush 8, 2) := by decide +kernel
theorem dX0_init_69 : decode cX0_init 69 = .ok (.invokespecial 11, 3) := by decide +kernel
theorem dX0_init_72 : decode cX0_init 72 = .ok (.putfield 29, 3) := by decide +kernel
theorem dX0_init_75 : decode cX0_init 75 = .ok (.aload_n 0, 1) := by decide +kernel
theorem dX0_init_76 : decode cX0_init 76 = .ok (.new 9, 3) := by decide +kernel
theorem dX0_init_79 : decode cX0_init 79 = .ok (.dup, 1) := by decide +kernel
theorem dX0_init_80 : decode cX0_init 80 = .ok (.iconst 3, 1) := by decide +kernel
theorem dX0_init_81 : decode cX0_init 81 = .ok (.bipush 6, 2) := by decide +kernel
theorem dX0_init_83 : decode cX0_init 83 = .ok (.invokespecial 11, 3) := by decide +kernel
theorem dX0_init_86 : decode cX0_init 86 = .ok (.putfield 32, 3) := by decide +kernel
theorem dX0_init_89 : decode cX0_init 89 = .ok (.aload_n 0, 1) := by decide +kernel
theorem dX0_init_90 : decode cX0_init 90 = .ok (.new 9, 3) := by decide +kernel
theorem dX0_init_93 : decode cX0_init 93 = .ok (.dup, 1) := by decide +kernel
theorem dX0_init_94 : decode cX0_init 94 = .ok (.iconst 3, 1) := by decide +kernel
theorem dX0_init_95 : decode cX0_init 95 = .ok (.sipush 200, 3) := by decide +kernel
theorem dX0_init_98 : decode cX0_init 98 = .ok (.invokespecial 11, 3) := by decide +kernel
theorem dX0_init_101 : decode cX0_init 101 = .ok (.putfield 35, 3) := by decide +kernel
theorem dX0_init_104 : decode cX0_init 104 = .ok (.aload_n 0, 1) := by decide +kernel
theorem dX0_init_105 : decode cX0_init 105 = .ok (.iconst 0, 1) := by decide +kernel
theorem dX0_init_106 : decode cX0_init 106 = .ok (.putfield 38, 3) := by decide +kernel
theorem dX0_init_109 : decode cX0_init 109 = .ok (.iconst 0, 1) := by decide +kernel
theorem dX0_init_110 : decode cX0_init 110 = .ok (.istore_n 1, 1) := by decide +kernel
theorem dX0_init_111 : decode cX0_init 111 = .ok (.iload_n 1, 1) := by decide +kernel
theorem dX0_init_112 : decode cX0_init 112 = .ok (.bipush 17, 2) := by decide +kernel
theorem dX0_init_114 : decode cX0_init 114 = .ok (.if_icmp .ge 26, 3) := by decide +kernel
theorem dX0_init_117 : decode cX0_init 117 = .ok (.aload_n 0, 1) := by decide +kernel
theorem dX0_init_118 : decode cX0_init 118 = .ok (.getfield 23, 3) := by decide +kernel
theorem dX0_init_121 : decode cX0_init 121 = .ok (.aload_n 0, 1) := by decide +kernel
theorem dX0_init_122 : decode cX0_init 122 = .ok (.getfield 23, 3) := by decide +kernel
theorem dX0_init_125 : decode cX0_init 125 = .ok (.invokevirtual 42, 3) := by decide +kernel
theorem dX0_init_128 : decode cX0_init 128 = .ok (.iconst 0, 1) := by decide +kernel
theorem dX0_init_129 : decode cX0_init 129 = .ok (.bipush 100, 2) := by decide +kernel
theorem dX0_init_131 : decode cX0_init 131 = .ok (.invokevirtual 46, 3) := by decide +kernel
theorem dX0_init_134 : decode cX0_init 134 = .ok (.iinc 1 1, 3) := by decide +kernel
theorem dX0_init_137 : decode cX0_init 137 = .ok (.goto (-26), 3) := by decide +kernel
theorem dX0_init_140 : decode cX0_init 140 = .ok (.return_, 1) := by decide +kernel
theorem dX0_become_0 : decode cX0_become 0 = .ok (.aload_n 0, 1) := by decide +kernel
theorem dX0_become_1 : decode cX0_become 1 = .ok (.getfield 14, 3) := by decide +kernel
theorem dX0_become_4 : decode cX0_become 4 = .ok (.aload_n 1, 1) := by decide +kernel
theorem dX0_become_5 : decode cX0_become 5 = .ok (.getfield 14, 3) := by decide +kernel
theorem dX0_become_8 : decode cX0_become 8 = .ok (.invokevirtual 50, 3) := by decide +kernel
theorem dX0_become_11 : decode cX0_become 11 = .ok (.aload_n 0, 1) := by decide +kernel
theorem dX0_become_12 : decode cX0_become 12 = .ok (.getfield 20, 3) := by decide +kernel
theorem dX0_become_15 : decode cX0_become 15 = .ok (.aload_n 1, 1) := by decide +kernel
theorem dX0_become_16 : decode cX0_become 16 = .ok (.getfield 20, 3) := by decide +kernel
theorem dX0_become_19 : decode cX0_become 19 = .ok (.invokevirtual 50, 3) := by decide +kernel
theorem dX0_become_22 : decode cX0_become 22 = .ok (.aload_n 0, 1) := by decide +kernel
theorem dX0_become_23 : decode cX0_become 23 = .ok (.getfield 23, 3) := by decide +kernel
theorem dX0_become_26 : decode cX0_become 26 = .ok (.aload_n 1, 1) := by decide +kernel
theorem dX0_become_27 : decode cX0_become 27 = .ok (.getfield 23, 3) := by decide +kernel
theorem dX0_become_30 : decode cX0_become 30 = .ok (.invokevirtual 50, 3) := by decide +kernel
theorem dX0_become_33 : decode cX0_become 33 = .ok (.aload_n 0, 1) := by decide +kernel
theorem dX0_become_34 : decode cX0_become 34 = .ok (.getfield 26, 3) := by decide +kernel
theorem dX0_become_37 : decode cX0_become 37 = .ok (.aload_n 1, 1) := by decide +kernel
theorem dX0_become_38 : decode cX0_become 38 = .ok (.getfield 26, 3) := by decide +kernel
theorem dX0_become_41 : decode cX0_become 41 = .ok (.invokevirtual 50, 3) := by decide +kernel
theorem dX0_become_44 : decode cX0_become 44 = .ok (.aload_n 0, 1) := by decide +kernel
theorem dX0_become_45 : decode cX0_become 45 = .ok (.getfield 29, 3) := by decide +kernel
theorem dX0_become_48 : decode cX0_become 48 = .ok (.aload_n 1, 1) := by decide +kernel
theorem dX0_become_49 : decode cX0_become 49 = .ok (.getfield 29, 3) := by decide +kernel
theorem dX0_become_52 : decode cX0_become 52 = .ok (.invokevirtual 50, 3) := by decide +kernel
theorem dX0_become_55 : decode cX0_become 55 = .ok (.aload_n 0, 1) := by decide +kernel
theorem dX0_become_56 : decode cX0_become 56 = .ok (.getfield 32, 3) := by decide +kernel
theorem dX0_become_59 : decode cX0_become 59 = .ok (.aload_n 1, 1) := by decide +kernel
theorem dX0_become_60 : decode cX0_become 60 = .ok (.getfield 32, 3) := by decide +kernel
theorem dX0_become_63 : decode cX0_become 63 = .ok (.invokevirtual 50, 3) := by decide +kernel
theorem dX0_become_66 : decode cX0_become 66 = .ok (.aload_n 0, 1) := by decide +kernel
theorem dX0_become_67 : decode cX0_become 67 = .ok (.getfield 35, 3) := by decide +kernel
theorem dX0_become_70 : decode cX0_become 70 = .ok (.aload_n 1, 1) := by decide +kernel
theorem dX0_become_71 : decode cX0_become 71 = .ok (.getfield 35, 3) := by decide +kernel
theorem dX0_become_74 : decode cX0_become 74 = .ok (.invokevirtual 50, 3) := by decide +kernel
theorem dX0_become_77 : decode cX0_become 77 = .ok (.aload_n 0, 1) := by decide +kernel
theorem dX0_become_78 : decode cX0_become 78 = .ok (.aload_n 1, 1) := by decide +kernel
theorem dX0_become_79 : decode cX0_become 79 = .ok (.getfield 38, 3) := by decide +kernel
theorem dX0_become_82 : decode cX0_become 82 = .ok (.putfield 38, 3) := by decide +kernel
theorem dX0_become_85 : decode cX0_become 85 = .ok (.return_, 1) := by decide +kernel
theorem dX0_isTruthTold_0 : decode cX0_isTruthTold 0 = .ok (.aload_n 0, 1) := by decide +kernel
theorem dX0_isTruthTold_1 : decode cX0_isTruthTold 1 = .ok (.getfield 14, 3) := by decide +kernel
theorem dX0_isTruthTold_4 : decode cX0_isTruthTold 4 = .ok (.iload_n 1, 1) := by decide +kernel
theorem dX0_isTruthTold_5 : decode cX0_isTruthTold 5 = .ok (.iconst 3, 1) := by decide +kernel
theorem dX0_isTruthTold_6 : decode cX0_isTruthTold 6 = .ok (.invokevirtual 54, 3) := by decide +kernel
theorem dX0_isTruthTold_9 : decode cX0_isTruthTold 9 = .ok (.ifCond .lt 7, 3) := by decide +kernel
theorem dX0_isTruthTold_12 : decode cX0_isTruthTold 12 = .ok (.iconst 1, 1) := by decide +kernel
theorem dX0_isTruthTold_13 : decode cX0_isTruthTold 13 = .ok (.goto 4, 3) := by decide +kernel
theorem dX0_isTruthTold_16 : decode cX0_isTruthTold 16 = .ok (.iconst 0, 1) := by decide +kernel
theorem dX0_isTruthTold_17 : decode cX0_isTruthTold 17 = .ok (.ireturn, 1) := by decide +kernel
theorem dX0_isOf_0 : decode cX0_isOf 0 = .ok (.aload_n 0, 1) := by decide +kernel
theorem dX0_isOf_1 : decode cX0_isOf 1 = .ok (.getfield 20, 3) := by decide +kernel
theorem dX0_isOf_4 : decode cX0_isOf 4 = .ok (.iload_n 1, 1) := by decide +kernel
theorem dX0_isOf_5 : decode cX0_isOf 5 = .ok (.invokevirtual 58, 3) := by decide +kernel
theorem dX0_isOf_8 : decode cX0_isOf 8 = .ok (.ifCond .eq 20, 3) := by decide +kernel
theorem dX0_isOf_11 : decode cX0_isOf 11 = .ok (.aload_n 0, 1) := by decide +kernel
theorem dX0_isOf_12 : decode cX0_isOf 12 = .ok (.getfield 20, 3) := by decide +kernel
theorem dX0_isOf_15 : decode cX0_isOf 15 = .ok (.iload_n 1, 1) := by decide +kernel
theorem dX0_isOf_16 : decode cX0_isOf 16 = .ok (.iconst 0, 1) := by decide +kernel
theorem dX0_isOf_17 : decode cX0_isOf 17 = .ok (.invokevirtual 54, 3) := by decide +kernel
theorem dX0_isOf_20 : decode cX0_isOf 20 = .ok (.iload_n 2, 1) := by decide +kernel
theorem dX0_isOf_21 : decode cX0_isOf 21 = .ok (.if_icmp .ne 7, 3) := by decide +kernel
theorem dX0_isOf_24 : decode cX0_isOf 24 = .ok (.iconst 1, 1) := by decide +kernel
theorem dX0_isOf_25 : decode cX0_isOf 25 = .ok (.goto 4, 3) := by decide +kernel
theorem dX0_isOf_28 : decode cX0_isOf 28 = .ok (.iconst 0, 1) := by decide +kernel
theorem dX0_isOf_29 : decode cX0_isOf 29 = .ok (.ireturn, 1) := by decide +kernel
theorem dX0_papersOf_0 : decode cX0_papersOf 0 = .ok (.aload_n 0, 1) := by decide +kernel
theorem dX0_papersOf_1 : decode cX0_papersOf 1 = .ok (.iload_n 1, 1) := by decide +kernel
theorem dX0_papersOf_2 : decode cX0_papersOf 2 = .ok (.invokevirtual 62, 3) := by decide +kernel
theorem dX0_papersOf_5 : decode cX0_papersOf 5 = .ok (.invokestatic 66, 3) := by decide +kernel
theorem dX0_papersOf_8 : decode cX0_papersOf 8 = .ok (.ireturn, 1) := by decide +kernel
theorem dX0_paperBitsOf_0 : decode cX0_paperBitsOf 0 = .ok (.iconst 0, 1) := by decide +kernel
theorem dX0_paperBitsOf_1 : decode cX0_paperBitsOf 1 = .ok (.istore_n 2, 1) := by decide +kernel
theorem dX0_paperBitsOf_2 : decode cX0_paperBitsOf 2 = .ok (.iconst 0, 1) := by decide +kernel
theorem dX0_paperBitsOf_3 : decode cX0_paperBitsOf 3 = .ok (.istore_n 3, 1) := by decide +kernel
theorem dX0_paperBitsOf_4 : decode cX0_paperBitsOf 4 = .ok (.iload_n 3, 1) := by decide +kernel
theorem dX0_paperBitsOf_5 : decode cX0_paperBitsOf 5 = .ok (.aload_n 0, 1) := by decide +kernel
theorem dX0_paperBitsOf_6 : decode cX0_paperBitsOf 6 = .ok (.getfield 20, 3) := by decide +kernel
theorem dX0_paperBitsOf_9 : decode cX0_paperBitsOf 9 = .ok (.getfield 71, 3) := by decide +kernel
theorem dX0_paperBitsOf_12 : decode cX0_paperBitsOf 12 = .ok (.if_icmp .ge 25, 3) := by decide +kernel
theorem dX0_paperBitsOf_15 : decode cX0_paperBitsOf 15 = .ok (.aload_n 0, 1) := by decide +kernel
theorem dX0_paperBitsOf_16 : decode cX0_paperBitsOf 16 = .ok (.iload_n 3, 1) := by decide +kernel
theorem dX0_paperBitsOf_17 : decode cX0_paperBitsOf 17 = .ok (.iload_n 1, 1) := by decide +kernel
theorem dX0_paperBitsOf_18 : decode cX0_paperBitsOf 18 = .ok (.invokevirtual 74, 3) := by decide +kernel
theorem dX0_paperBitsOf_21 : decode cX0_paperBitsOf 21 = .ok (.ifCond .eq 10, 3) := by decide +kernel
theorem dX0_paperBitsOf_24 : decode cX0_paperBitsOf 24 = .ok (.iload_n 2, 1) := by decide +kernel
theorem dX0_paperBitsOf_25 : decode cX0_paperBitsOf 25 = .ok (.iload_n 3, 1) := by decide +kernel
theorem dX0_paperBitsOf_26 : decode cX0_paperBitsOf 26 = .ok (.invokestatic 78, 3) := by decide +kernel
theorem dX0_paperBitsOf_29 : decode cX0_paperBitsOf 29 = .ok (.ior, 1) := by decide +kernel
theorem dX0_paperBitsOf_30 : decode cX0_paperBitsOf 30 = .ok (.istore_n 2, 1) := by decide +kernel
theorem dX0_paperBitsOf_31 : decode cX0_paperBitsOf 31 = .ok (.iinc 3 1, 3) := by decide +kernel
theorem dX0_paperBitsOf_34 : decode cX0_paperBitsOf 34 = .ok (.goto (-30), 3) := by decide +kernel
theorem dX0_paperBitsOf_37 : decode cX0_paperBitsOf 37 = .ok (.iload_n 2, 1) := by decide +kernel
theorem dX0_paperBitsOf_38 : decode cX0_paperBitsOf 38 = .ok (.ireturn, 1) := by decide +kernel
theorem dX0_nextPaperOf_0 : decode cX0_nextPaperOf 0 = .ok (.iload_n 2, 1) := by decide +kernel
theorem dX0_nextPaperOf_1 : decode cX0_nextPaperOf 1 = .ok (.bipush (-3), 2) := by decide +kernel
theorem dX0_nextPaperOf_3 : decode cX0_nextPaperOf 3 = .ok (.if_icmp .ne 7, 3) := by decide +kernel
theorem dX0_nextPaperOf_6 : decode cX0_nextPaperOf 6 = .ok (.iconst 0, 1) := by decide +kernel
theorem dX0_nextPaperOf_7 : decode cX0_nextPaperOf 7 = .ok (.goto 6, 3) := by decide +kernel
theorem dX0_nextPaperOf_10 : decode cX0_nextPaperOf 10 = .ok (.iload_n 2, 1) := by decide +kernel
theorem dX0_nextPaperOf_11 : decode cX0_nextPaperOf 11 = .ok (.iconst 1, 1) := by decide +kernel
theorem dX0_nextPaperOf_12 : decode cX0_nextPaperOf 12 = .ok (.iadd, 1) := by decide +kernel
theorem dX0_nextPaperOf_13 : decode cX0_nextPaperOf 13 = .ok (.istore_n 3, 1) := by decide +kernel
theorem dX0_nextPaperOf_14 : decode cX0_nextPaperOf 14 = .ok (.iconst 0, 1) := by decide +kernel
theorem dX0_nextPaperOf_15 : decode cX0_nextPaperOf 15 = .ok (.iload_n 3, 1) := by decide +kernel
theorem dX0_nextPaperOf_16 : decode cX0_nextPaperOf 16 = .ok (.invokestatic 81, 3) := by decide +kernel
theorem dX0_nextPaperOf_19 : decode cX0_nextPaperOf 19 = .ok (.istore 4, 2) := by decide +kernel
theorem dX0_nextPaperOf_21 : decode cX0_nextPaperOf 21 = .ok (.iload 4, 2) := by decide +kernel
theorem dX0_nextPaperOf_23 : decode cX0_nextPaperOf 23 = .ok (.aload_n 0, 1) := by decide +kernel
theorem dX0_nextPaperOf_24 : decode cX0_nextPaperOf 24 = .ok (.getfield 20, 3) := by decide +kernel
theorem dX0_nextPaperOf_27 : decode cX0_nextPaperOf 27 = .ok (.getfield 71, 3) := by decide +kernel
theorem dX0_nextPaperOf_30 : decode cX0_nextPaperOf 30 = .ok (.if_icmp .ge 22, 3) := by decide +kernel
theorem dX0_nextPaperOf_33 : decode cX0_nextPaperOf 33 = .ok (.aload_n 0, 1) := by decide +kernel
theorem dX0_nextPaperOf_34 : decode cX0_nextPaperOf 34 = .ok (.iload 4, 2) := by decide +kernel
theorem dX0_nextPaperOf_36 : decode cX0_nextPaperOf 36 = .ok (.iload_n 1, 1) := by decide +kernel
theorem dX0_nextPaperOf_37 : decode cX0_nextPaperOf 37 = .ok (.invokevirtual 74, 3) := by decide +kernel
theorem dX0_nextPaperOf_40 : decode cX0_nextPaperOf 40 = .ok (.ifCond .eq 6, 3) := by decide +kernel
theorem dX0_nextPaperOf_43 : decode cX0_nextPaperOf 43 = .ok (.iload 4, 2) := by decide +kernel
theorem dX0_nextPaperOf_45 : decode cX0_nextPaperOf 45 = .ok (.ireturn, 1) := by decide +kernel
theorem dX0_nextPaperOf_46 : decode cX0_nextPaperOf 46 = .ok (.iinc 4 1, 3) := by decide +kernel
theorem dX0_nextPaperOf_49 : decode cX0_nextPaperOf 49 = .ok (.goto (-28), 3) := by decide +kernel
theorem dX0_nextPaperOf_52 : decode cX0_nextPaperOf 52 = .ok (.bipush (-3), 2) := by decide +kernel
theorem dX0_nextPaperOf_54 : decode cX0_nextPaperOf 54 = .ok (.ireturn, 1) := by decide +kernel
theorem dX0_seen_0 : decode cX0_seen 0 = .ok (.iconst 0, 1) := by decide +kernel
theorem dX0_seen_1 : decode cX0_seen 1 = .ok (.istore_n 2, 1) := by decide +kernel
theorem dX0_seen_2 : decode cX0_seen 2 = .ok (.iconst 0, 1) := by decide +kernel
theorem dX0_seen_3 : decode cX0_seen 3 = .ok (.istore_n 3, 1) := by decide +kernel
theorem dX0_seen_4 : decode cX0_seen 4 = .ok (.iload_n 3, 1) := by decide +kernel
theorem dX0_seen_5 : decode cX0_seen 5 = .ok (.aload_n 0, 1) := by decide +kernel
theorem dX0_seen_6 : decode cX0_seen 6 = .ok (.getfield 20, 3) := by decide +kernel
theorem dX0_seen_9 : decode cX0_seen 9 = .ok (.getfield 71, 3) := by decide +kernel
theorem dX0_seen_12 : decode cX0_seen 12 = .ok (.if_icmp .ge 49, 3) := by decide +kernel
theorem dX0_seen_15 : decode cX0_seen 15 = .ok (.aload_n 0, 1) := by decide +kernel
theorem dX0_seen_16 : decode cX0_seen 16 = .ok (.iload_n 3, 1) := by decide +kernel
theorem dX0_seen_17 : decode cX0_seen 17 = .ok (.iload_n 1, 1) := by decide +kernel
theorem dX0_seen_18 : decode cX0_seen 18 = .ok (.invokevirtual 74, 3) := by decide +kernel
theorem dX0_seen_21 : decode cX0_seen 21 = .ok (.ifCond .eq 34, 3) := by decide +kernel
theorem dX0_seen_24 : decode cX0_seen 24 = .ok (.aload_n 0, 1) := by decide +kernel
theorem dX0_seen_25 : decode cX0_seen 25 = .ok (.getfield 20, 3) := by decide +kernel
theorem dX0_seen_28 : decode cX0_seen 28 = .ok (.iload_n 3, 1) := by decide +kernel
theorem dX0_seen_29 : decode cX0_seen 29 = .ok (.iconst 1, 1) := by decide +kernel
theorem dX0_seen_30 : decode cX0_seen 30 = .ok (.invokevirtual 54, 3) := by decide +kernel
theorem dX0_seen_33 : decode cX0_seen 33 = .ok (.bipush 6, 2) := by decide +kernel
theorem dX0_seen_35 : decode cX0_seen 35 = .ok (.if_icmp .ne 6, 3) := by decide +kernel
theorem dX0_seen_38 : decode cX0_seen 38 = .ok (.goto 17, 3) := by decide +kernel
theorem dX0_seen_41 : decode cX0_seen 41 = .ok (.iload_n 2, 1) := by decide +kernel
theorem dX0_seen_42 : decode cX0_seen 42 = .ok (.aload_n 0, 1) := by decide +kernel
theorem dX0_seen_43 : decode cX0_seen 43 = .ok (.getfield 20, 3) := by decide +kernel
theorem dX0_seen_46 : decode cX0_seen 46 = .ok (.iload_n 3, 1) := by decide +kernel
theorem dX0_seen_47 : decode cX0_seen 47 = .ok (.iconst 2, 1) := by decide +kernel
theorem dX0_seen_48 : decode cX0_seen 48 = .ok (.invokevirtual 54, 3) := by decide +kernel
theorem dX0_seen_51 : decode cX0_seen 51 = .ok (.invokestatic 81, 3) := by decide +kernel
theorem dX0_seen_54 : decode cX0_seen 54 = .ok (.istore_n 2, 1) := by decide +kernel
theorem dX0_seen_55 : decode cX0_seen 55 = .ok (.iinc 3 1, 3) := by decide +kernel
theorem dX0_seen_58 : decode cX0_seen 58 = .ok (.goto (-54), 3) := by decide +kernel
theorem dX0_seen_61 : decode cX0_seen 61 = .ok (.iload_n 2, 1) := by decide +kernel
theorem dX0_seen_62 : decode cX0_seen 62 = .ok (.ireturn, 1) := by decide +kernel
theorem dX0_isInSpan_0 : decode cX0_isInSpan 0 = .ok (.aload_n 0, 1) := by decide +kernel
theorem dX0_isInSpan_1 : decode cX0_isInSpan 1 = .ok (.getfield 20, 3) := by decide +kernel
theorem dX0_isInSpan_4 : decode cX0_isInSpan 4 = .ok (.iload_n 1, 1) := by decide +kernel
theorem dX0_isInSpan_5 : decode cX0_isInSpan 5 = .ok (.iconst 2, 1) := by decide +kernel
theorem dX0_isInSpan_6 : decode cX0_isInSpan 6 = .ok (.invokevirtual 54, 3) := by decide +kernel
theorem dX0_isInSpan_9 : decode cX0_isInSpan 9 = .ok (.istore_n 3, 1) := by decide +kernel
theorem dX0_isInSpan_10 : decode cX0_isInSpan 10 = .ok (.aload_n 0, 1) := by decide +kernel
theorem dX0_isInSpan_11 : decode cX0_isInSpan 11 = .ok (.getfield 20, 3) := by decide +kernel
theorem dX0_isInSpan_14 : decode cX0_isInSpan 14 = .ok (.iload_n 1, 1) := by decide +kernel
theorem dX0_isInSpan_15 : decode cX0_isInSpan 15 = .ok (.iconst 3, 1) := by decide +kernel
theorem dX0_isInSpan_16 : decode cX0_isInSpan 16 = .ok (.invokevirtual 54, 3) := by decide +kernel
theorem dX0_isInSpan_19 : decode cX0_isInSpan 19 = .ok (.istore 4, 2) := by decide +kernel
theorem dX0_isInSpan_21 : decode cX0_isInSpan 21 = .ok (.iload_n 2, 1) := by decide +kernel
theorem dX0_isInSpan_22 : decode cX0_isInSpan 22 = .ok (.iload_n 3, 1) := by decide +kernel
theorem dX0_isInSpan_23 : decode cX0_isInSpan 23 = .ok (.if_icmp .le 5, 3) := by decide +kernel
theorem dX0_isInSpan_26 : decode cX0_isInSpan 26 = .ok (.iconst 0, 1) := by decide +kernel
theorem dX0_isInSpan_27 : decode cX0_isInSpan 27 = .ok (.ireturn, 1) := by decide +kernel
theorem dX0_isInSpan_28 : decode cX0_isInSpan 28 = .ok (.aload_n 0, 1) := by decide +kernel
theorem dX0_isInSpan_29 : decode cX0_isInSpan 29 = .ok (.getfield 20, 3) := by decide +kernel
theorem dX0_isInSpan_32 : decode cX0_isInSpan 32 = .ok (.iload_n 1, 1) := by decide +kernel
theorem dX0_isInSpan_33 : decode cX0_isInSpan 33 = .ok (.iconst 1, 1) := by decide +kernel
theorem dX0_isInSpan_34 : decode cX0_isInSpan 34 = .ok (.invokevirtual 54, 3) := by decide +kernel
theorem dX0_isInSpan_37 : decode cX0_isInSpan 37 = .ok (.tableswitch 145 1 7 #[43, 55, 63, 77, 101, 117, 131], 43) := by decide +kernel
theorem dX0_isInSpan_80 : decode cX0_isInSpan 80 = .ok (.iload_n 2, 1) := by decide +kernel
theorem dX0_isInSpan_81 : decode cX0_isInSpan 81 = .ok (.iload 4, 2) := by decide +kernel
theorem dX0_isInSpan_83 : decode cX0_isInSpan 83 = .ok (.if_icmp .ne 7, 3) := by decide +kernel
theorem dX0_isInSpan_86 : decode cX0_isInSpan 86 = .ok (.iconst 1, 1) := by decide +kernel
theorem dX0_isInSpan_87 : decode cX0_isInSpan 87 = .ok (.goto 4, 3) := by decide +kernel
theorem dX0_isInSpan_90 : decode cX0_isInSpan 90 = .ok (.iconst 0, 1) := by decide +kernel
theorem dX0_isInSpan_91 : decode cX0_isInSpan 91 = .ok (.ireturn, 1) := by decide +kernel
theorem dX0_isInSpan_92 : decode cX0_isInSpan 92 = .ok (.iload_n 2, 1) := by decide +kernel
theorem dX0_isInSpan_93 : decode cX0_isInSpan 93 = .ok (.iload 4, 2) := by decide +kernel
theorem dX0_isInSpan_95 : decode cX0_isInSpan 95 = .ok (.iconst 1, 1) := by decide +kernel
theorem dX0_isInSpan_96 : decode cX0_isInSpan 96 = .ok (.invokestatic 86, 3) := by decide +kernel
theorem dX0_isInSpan_99 : decode cX0_isInSpan 99 = .ok (.ireturn, 1) := by decide +kernel
theorem dX0_isInSpan_100 : decode cX0_isInSpan 100 = .ok (.iload_n 2, 1) := by decide +kernel
theorem dX0_isInSpan_101 : decode cX0_isInSpan 101 = .ok (.iload_n 3, 1) := by decide +kernel
theorem dX0_isInSpan_102 : decode cX0_isInSpan 102 = .ok (.iload 4, 2) := by decide +kernel
theorem dX0_isInSpan_104 : decode cX0_isInSpan 104 = .ok (.isub, 1) := by decide +kernel
theorem dX0_isInSpan_105 : decode cX0_isInSpan 105 = .ok (.iload 4, 2) := by decide +kernel
theorem dX0_isInSpan_107 : decode cX0_isInSpan 107 = .ok (.invokestatic 90, 3) := by decide +kernel
theorem dX0_isInSpan_110 : decode cX0_isInSpan 110 = .ok (.invokestatic 86, 3) := by decide +kernel
theorem dX0_isInSpan_113 : decode cX0_isInSpan 113 = .ok (.ireturn, 1) := by decide +kernel
theorem dX0_isInSpan_114 : decode cX0_isInSpan 114 = .ok (.iload_n 2, 1) := by decide +kernel
theorem dX0_isInSpan_115 : decode cX0_isInSpan 115 = .ok (.iload_n 3, 1) := by decide +kernel
theorem dX0_isInSpan_116 : decode cX0_isInSpan 116 = .ok (.iload 4, 2) := by decide +kernel
theorem dX0_isInSpan_118 : decode cX0_isInSpan 118 = .ok (.isub, 1) := by decide +kernel
theorem dX0_isInSpan_119 : decode cX0_isInSpan 119 = .ok (.if_icmp .eq 13, 3) := by decide +kernel
theorem dX0_isInSpan_122 : decode cX0_isInSpan 122 = .ok (.iload_n 2, 1) := by decide +kernel
theorem dX0_isInSpan_123 : decode cX0_isInSpan 123 = .ok (.iload_n 3, 1) := by decide +kernel
theorem dX0_isInSpan_124 : decode cX0_isInSpan 124 = .ok (.iload 4, 2) := by decide +kernel
theorem dX0_isInSpan_126 : decode cX0_isInSpan 126 = .ok (.isub, 1) := by decide +kernel
theorem dX0_isInSpan_127 : decode cX0_isInSpan 127 = .ok (.iconst 1, 1) := by decide +kernel
theorem dX0_isInSpan_128 : decode cX0_isInSpan 128 = .ok (.isub, 1) := by decide +kernel
theorem dX0_isInSpan_129 : decode cX0_isInSpan 129 = .ok (.if_icmp .ne 7, 3) := by decide +kernel
theorem dX0_isInSpan_132 : decode cX0_isInSpan 132 = .ok (.iconst 1, 1) := by decide +kernel
theorem dX0_isInSpan_133 : decode cX0_isInSpan 133 = .ok (.goto 4, 3) := by decide +kernel
theorem dX0_isInSpan_136 : decode cX0_isInSpan 136 = .ok (.iconst 0, 1) := by decide +kernel
theorem dX0_isInSpan_137 : decode cX0_isInSpan 137 = .ok (.ireturn, 1) := by decide +kernel
theorem dX0_isInSpan_138 : decode cX0_isInSpan 138 = .ok (.iload_n 2, 1) := by decide +kernel
theorem dX0_isInSpan_139 : decode cX0_isInSpan 139 = .ok (.iload 4, 2) := by decide +kernel
theorem dX0_isInSpan_141 : decode cX0_isInSpan 141 = .ok (.invokestatic 93, 3) := by decide +kernel
theorem dX0_isInSpan_144 : decode cX0_isInSpan 144 = .ok (.iconst 1, 1) := by decide +kernel
theorem dX0_isInSpan_145 : decode cX0_isInSpan 145 = .ok (.if_icmp .gt 7, 3) := by decide +kernel
theorem dX0_isInSpan_148 : decode cX0_isInSpan 148 = .ok (.iconst 1, 1) := by decide +kernel
theorem dX0_isInSpan_149 : decode cX0_isInSpan 149 = .ok (.goto 4, 3) := by decide +kernel
theorem dX0_isInSpan_152 : decode cX0_isInSpan 152 = .ok (.iconst 0, 1) := by decide +kernel
theorem dX0_isInSpan_153 : decode cX0_isInSpan 153 = .ok (.ireturn, 1) := by decide +kernel
theorem dX0_isInSpan_154 : decode cX0_isInSpan 154 = .ok (.iload_n 2, 1) := by decide +kernel
theorem dX0_isInSpan_155 : decode cX0_isInSpan 155 = .ok (.iload_n 3, 1) := by decide +kernel
theorem dX0_isInSpan_156 : decode cX0_isInSpan 156 = .ok (.iload 4, 2) := by decide +kernel
theorem dX0_isInSpan_158 : decode cX0_isInSpan 158 = .ok (.isub, 1) := by decide +kernel
theorem dX0_isInSpan_159 : decode cX0_isInSpan 159 = .ok (.if_icmp .gt 7, 3) := by decide +kernel
theorem dX0_isInSpan_162 : decode cX0_isInSpan 162 = .ok (.iconst 1, 1) := by decide +kernel
theorem dX0_isInSpan_163 : decode cX0_isInSpan 163 = .ok (.goto 4, 3) := by decide +kernel
theorem dX0_isInSpan_166 : decode cX0_isInSpan 166 = .ok (.iconst 0, 1) := by decide +kernel
theorem dX0_isInSpan_167 : decode cX0_isInSpan 167 = .ok (.ireturn, 1) := by decide +kernel
theorem dX0_isInSpan_168 : decode cX0_isInSpan 168 = .ok (.iload_n 2, 1) := by decide +kernel
theorem dX0_isInSpan_169 : decode cX0_isInSpan 169 = .ok (.iload 4, 2) := by decide +kernel
theorem dX0_isInSpan_171 : decode cX0_isInSpan 171 = .ok (.iconst 5, 1) := by decide +kernel
theorem dX0_isInSpan_172 : decode cX0_isInSpan 172 = .ok (.isub, 1) := by decide +kernel
theorem dX0_isInSpan_173 : decode cX0_isInSpan 173 = .ok (.if_icmp .gt 7, 3) := by decide +kernel
theorem dX0_isInSpan_176 : decode cX0_isInSpan 176 = .ok (.iconst 1, 1) := by decide +kernel
theorem dX0_isInSpan_177 : decode cX0_isInSpan 177 = .ok (.goto 4, 3) := by decide +kernel
theorem dX0_isInSpan_180 : decode cX0_isInSpan 180 = .ok (.iconst 0, 1) := by decide +kernel
theorem dX0_isInSpan_181 : decode cX0_isInSpan 181 = .ok (.ireturn, 1) := by decide +kernel
theorem dX0_isInSpan_182 : decode cX0_isInSpan 182 = .ok (.iconst 0, 1) := by decide +kernel
theorem dX0_isInSpan_183 : decode cX0_isInSpan 183 = .ok (.ireturn, 1) := by decide +kernel
theorem dX0_isNear_0 : decode cX0_isNear 0 = .ok (.iload_n 0, 1) := by decide +kernel
theorem dX0_isNear_1 : decode cX0_isNear 1 = .ok (.iload_n 1, 1) := by decide +kernel
theorem dX0_isNear_2 : decode cX0_isNear 2 = .ok (.iload_n 2, 1) := by decide +kernel
theorem dX0_isNear_3 : decode cX0_isNear 3 = .ok (.isub, 1) := by decide +kernel
theorem dX0_isNear_4 : decode cX0_isNear 4 = .ok (.if_icmp .lt 14, 3) := by decide +kernel
theorem dX0_isNear_7 : decode cX0_isNear 7 = .ok (.iload_n 0, 1) := by decide +kernel
theorem dX0_isNear_8 : decode cX0_isNear 8 = .ok (.iload_n 1, 1) := by decide +kernel
theorem dX0_isNear_9 : decode cX0_isNear 9 = .ok (.iload_n 2, 1) := by decide +kernel
theorem dX0_isNear_10 : decode cX0_isNear 10 = .ok (.iadd, 1) := by decide +kernel
theorem dX0_isNear_11 : decode cX0_isNear 11 = .ok (.if_icmp .gt 7, 3) := by decide +kernel
theorem dX0_isNear_14 : decode cX0_isNear 14 = .ok (.iconst 1, 1) := by decide +kernel
theorem dX0_isNear_15 : decode cX0_isNear 15 = .ok (.goto 4, 3) := by decide +kernel
theorem dX0_isNear_18 : decode cX0_isNear 18 = .ok (.iconst 0, 1) := by decide +kernel
theorem dX0_isNear_19 : decode cX0_isNear 19 = .ok (.ireturn, 1) := by decide +kernel
theorem dX0_leewayOf_0 : decode cX0_leewayOf 0 = .ok (.iload_n 0, 1) := by decide +kernel
theorem dX0_leewayOf_1 : decode cX0_leewayOf 1 = .ok (.bipush 10, 2) := by decide +kernel
theorem dX0_leewayOf_3 : decode cX0_leewayOf 3 = .ok (.irem, 1) := by decide +kernel
theorem dX0_leewayOf_4 : decode cX0_leewayOf 4 = .ok (.ifCond .ne 5, 3) := by decide +kernel
theorem dX0_leewayOf_7 : decode cX0_leewayOf 7 = .ok (.iconst 5, 1) := by decide +kernel
theorem dX0_leewayOf_8 : decode cX0_leewayOf 8 = .ok (.ireturn, 1) := by decide +kernel
theorem dX0_leewayOf_9 : decode cX0_leewayOf 9 = .ok (.iload_n 0, 1) := by decide +kernel
theorem dX0_leewayOf_10 : decode cX0_leewayOf 10 = .ok (.bipush 10, 2) := by decide +kernel
theorem dX0_leewayOf_12 : decode cX0_leewayOf 12 = .ok (.irem, 1) := by decide +kernel
theorem dX0_leewayOf_13 : decode cX0_leewayOf 13 = .ok (.iconst 5, 1) := by decide +kernel
theorem dX0_leewayOf_14 : decode cX0_leewayOf 14 = .ok (.if_icmp .ne 7, 3) := by decide +kernel
theorem dX0_leewayOf_17 : decode cX0_leewayOf 17 = .ok (.iconst 2, 1) := by decide +kernel
theorem dX0_leewayOf_18 : decode cX0_leewayOf 18 = .ok (.goto 4, 3) := by decide +kernel
theorem dX0_leewayOf_21 : decode cX0_leewayOf 21 = .ok (.iconst 1, 1) := by decide +kernel
theorem dX0_leewayOf_22 : decode cX0_leewayOf 22 = .ok (.ireturn, 1) := by decide +kernel
theorem dX0_placesApart_0 : decode cX0_placesApart 0 = .ok (.iload_n 0, 1) := by decide +kernel
theorem dX0_placesApart_1 : decode cX0_placesApart 1 = .ok (.bipush 10, 2) := by decide +kernel
theorem dX0_placesApart_3 : decode cX0_placesApart 3 = .ok (.irem, 1) := by decide +kernel
theorem dX0_placesApart_4 : decode cX0_placesApart 4 = .ok (.iload_n 1, 1) := by decide +kernel
theorem dX0_placesApart_5 : decode cX0_placesApart 5 = .ok (.bipush 10, 2) := by decide +kernel
theorem dX0_placesApart_7 : decode cX0_placesApart 7 = .ok (.irem, 1) := by decide +kernel
theorem dX0_placesApart_8 : decode cX0_placesApart 8 = .ok (.if_icmp .eq 7, 3) := by decide +kernel
theorem dX0_placesApart_11 : decode cX0_placesApart 11 = .ok (.iconst 1, 1) := by decide +kernel
theorem dX0_placesApart_12 : decode cX0_placesApart 12 = .ok (.goto 4, 3) := by decide +kernel
theorem dX0_placesApart_15 : decode cX0_placesApart 15 = .ok (.iconst 0, 1) := by decide +kernel
theorem dX0_placesApart_16 : decode cX0_placesApart 16 = .ok (.istore_n 2, 1) := by decide +kernel
theorem dX0_placesApart_17 : decode cX0_placesApart 17 = .ok (.iload_n 0, 1) := by decide +kernel
theorem dX0_placesApart_18 : decode cX0_placesApart 18 = .ok (.bipush 10, 2) := by decide +kernel
theorem dX0_placesApart_20 : decode cX0_placesApart 20 = .ok (.idiv, 1) := by decide +kernel
theorem dX0_placesApart_21 : decode cX0_placesApart 21 = .ok (.bipush 10, 2) := by decide +kernel
theorem dX0_placesApart_23 : decode cX0_placesApart 23 = .ok (.irem, 1) := by decide +kernel
theorem dX0_placesApart_24 : decode cX0_placesApart 24 = .ok (.iload_n 1, 1) := by decide +kernel
theorem dX0_placesApart_25 : decode cX0_placesApart 25 = .ok (.bipush 10, 2) := by decide +kernel
theorem dX0_placesApart_27 : decode cX0_placesApart 27 = .ok (.idiv, 1) := by decide +kernel
theorem dX0_placesApart_28 : decode cX0_placesApart 28 = .ok (.bipush 10, 2) := by decide +kernel
theorem dX0_placesApart_30 : decode cX0_placesApart 30 = .ok (.irem, 1) := by decide +kernel
theorem dX0_placesApart_31 : decode cX0_placesApart 31 = .ok (.if_icmp .eq 6, 3) := by decide +kernel
theorem dX0_placesApart_34 : decode cX0_placesApart 34 = .ok (.iinc 2 1, 3) := by decide +kernel
theorem dX0_placesApart_37 : decode cX0_placesApart 37 = .ok (.iload_n 0, 1) := by decide +kernel
theorem dX0_placesApart_38 : decode cX0_placesApart 38 = .ok (.bipush 100, 2) := by decide +kernel
theorem dX0_placesApart_40 : decode cX0_placesApart 40 = .ok (.idiv, 1) := by decide +kernel
theorem dX0_placesApart_41 : decode cX0_placesApart 41 = .ok (.iload_n 1, 1) := by decide +kernel
theorem dX0_placesApart_42 : decode cX0_placesApart 42 = .ok (.bipush 100, 2) := by decide +kernel
theorem dX0_placesApart_44 : decode cX0_placesApart 44 = .ok (.idiv, 1) := by decide +kernel
theorem dX0_placesApart_45 : decode cX0_placesApart 45 = .ok (.if_icmp .eq 6, 3) := by decide +kernel
theorem dX0_placesApart_48 : decode cX0_placesApart 48 = .ok (.iinc 2 1, 3) := by decide +kernel
theorem dX0_placesApart_51 : decode cX0_placesApart 51 = .ok (.iload_n 2, 1) := by decide +kernel
theorem dX0_placesApart_52 : decode cX0_placesApart 52 = .ok (.ireturn, 1) := by decide +kernel
theorem dX0_isInSpans_0 : decode cX0_isInSpans 0 = .ok (.iconst 0, 1) := by decide +kernel
theorem dX0_isInSpans_1 : decode cX0_isInSpans 1 = .ok (.istore_n 3, 1) := by decide +kernel
theorem dX0_isInSpans_2 : decode cX0_isInSpans 2 = .ok (.iload_n 3, 1) := by decide +kernel
theorem dX0_isInSpans_3 : decode cX0_isInSpans 3 = .ok (.aload_n 0, 1) := by decide +kernel
theorem dX0_isInSpans_4 : decode cX0_isInSpans 4 = .ok (.getfield 20, 3) := by decide +kernel
theorem dX0_isInSpans_7 : decode cX0_isInSpans 7 = .ok (.getfield 71, 3) := by decide +kernel
theorem dX0_isInSpans_10 : decode cX0_isInSpans 10 = .ok (.if_icmp .ge 29, 3) := by decide +kernel
theorem dX0_isInSpans_13 : decode cX0_isInSpans 13 = .ok (.aload_n 0, 1) := by decide +kernel
theorem dX0_isInSpans_14 : decode cX0_isInSpans 14 = .ok (.iload_n 3, 1) := by decide +kernel
theorem dX0_isInSpans_15 : decode cX0_isInSpans 15 = .ok (.iload_n 1, 1) := by decide +kernel
theorem dX0_isInSpans_16 : decode cX0_isInSpans 16 = .ok (.invokevirtual 74, 3) := by decide +kernel
theorem dX0_isInSpans_19 : decode cX0_isInSpans 19 = .ok (.ifCond .eq 14, 3) := by decide +kernel
theorem dX0_isInSpans_22 : decode cX0_isInSpans 22 = .ok (.aload_n 0, 1) := by decide +kernel
theorem dX0_isInSpans_23 : decode cX0_isInSpans 23 = .ok (.iload_n 3, 1) := by decide +kernel
theorem dX0_isInSpans_24 : decode cX0_isInSpans 24 = .ok (.iload_n 2, 1) := by decide +kernel
theorem dX0_isInSpans_25 : decode cX0_isInSpans 25 = .ok (.invokevirtual 96, 3) := by decide +kernel
theorem dX0_isInSpans_28 : decode cX0_isInSpans 28 = .ok (.ifCond .ne 5, 3) := by decide +kernel
theorem dX0_isInSpans_31 : decode cX0_isInSpans 31 = .ok (.iconst 0, 1) := by decide +kernel
theorem dX0_isInSpans_32 : decode cX0_isInSpans 32 = .ok (.ireturn, 1) := by decide +kernel
theorem dX0_isInSpans_33 : decode cX0_isInSpans 33 = .ok (.iinc 3 1, 3) := by decide +kernel
theorem dX0_isInSpans_36 : decode cX0_isInSpans 36 = .ok (.goto (-34), 3) := by decide +kernel
theorem dX0_isInSpans_39 : decode cX0_isInSpans 39 = .ok (.iconst 1, 1) := by decide +kernel
theorem dX0_isInSpans_40 : decode cX0_isInSpans 40 = .ok (.ireturn, 1) := by decide +kernel
theorem dX0_spansMeet_0 : decode cX0_spansMeet 0 = .ok (.iconst 0, 1) := by decide +kernel
theorem dX0_spansMeet_1 : decode cX0_spansMeet 1 = .ok (.istore 4, 2) := by decide +kernel
theorem dX0_spansMeet_3 : decode cX0_spansMeet 3 = .ok (.iconst 0, 1) := by decide +kernel
theorem dX0_spansMeet_4 : decode cX0_spansMeet 4 = .ok (.istore 5, 2) := by decide +kernel
theorem dX0_spansMeet_6 : decode cX0_spansMeet 6 = .ok (.iload 5, 2) := by decide +kernel
theorem dX0_spansMeet_8 : decode cX0_spansMeet 8 = .ok (.aload_n 0, 1) := by decide +kernel
theorem dX0_spansMeet_9 : decode cX0_spansMeet 9 = .ok (.getfield 20, 3) := by decide +kernel
theorem dX0_spansMeet_12 : decode cX0_spansMeet 12 = .ok (.getfield 71, 3) := by decide +kernel
theorem dX0_spansMeet_15 : decode cX0_spansMeet 15 = .ok (.if_icmp .ge 53, 3) := by decide +kernel
theorem dX0_spansMeet_18 : decode cX0_spansMeet 18 = .ok (.aload_n 0, 1) := by decide +kernel
theorem dX0_spansMeet_19 : decode cX0_spansMeet 19 = .ok (.iload 5, 2) := by decide +kernel
theorem dX0_spansMeet_21 : decode cX0_spansMeet 21 = .ok (.iload_n 1, 1) := by decide +kernel
theorem dX0_spansMeet_22 : decode cX0_spansMeet 22 = .ok (.invokevirtual 74, 3) := by decide +kernel
theorem dX0_spansMeet_25 : decode cX0_spansMeet 25 = .ok (.ifCond .ne 6, 3) := by decide +kernel
theorem dX0_spansMeet_28 : decode cX0_spansMeet 28 = .ok (.goto 34, 3) := by decide +kernel
theorem dX0_spansMeet_31 : decode cX0_spansMeet 31 = .ok (.aload_n 0, 1) := by decide +kernel
theorem dX0_spansMeet_32 : decode cX0_spansMeet 32 = .ok (.iload 5, 2) := by decide +kernel
theorem dX0_spansMeet_34 : decode cX0_spansMeet 34 = .ok (.iload_n 1, 1) := by decide +kernel
theorem dX0_spansMeet_35 : decode cX0_spansMeet 35 = .ok (.invokevirtual 99, 3) := by decide +kernel
theorem dX0_spansMeet_38 : decode cX0_spansMeet 38 = .ok (.istore 6, 2) := by decide +kernel
theorem dX0_spansMeet_40 : decode cX0_spansMeet 40 = .ok (.iload 6, 2) := by decide +kernel
theorem dX0_spansMeet_42 : decode cX0_spansMeet 42 = .ok (.iload_n 2, 1) := by decide +kernel
theorem dX0_spansMeet_43 : decode cX0_spansMeet 43 = .ok (.if_icmp .lt 19, 3) := by decide +kernel
theorem dX0_spansMeet_46 : decode cX0_spansMeet 46 = .ok (.iload 6, 2) := by decide +kernel
theorem dX0_spansMeet_48 : decode cX0_spansMeet 48 = .ok (.iload_n 3, 1) := by decide +kernel
theorem dX0_spansMeet_49 : decode cX0_spansMeet 49 = .ok (.if_icmp .ge 13, 3) := by decide +kernel
theorem dX0_spansMeet_52 : decode cX0_spansMeet 52 = .ok (.iload 4, 2) := by decide +kernel
theorem dX0_spansMeet_54 : decode cX0_spansMeet 54 = .ok (.iload 5, 2) := by decide +kernel
theorem dX0_spansMeet_56 : decode cX0_spansMeet 56 = .ok (.invokestatic 78, 3) := by decide +kernel
theorem dX0_spansMeet_59 : decode cX0_spansMeet 59 = .ok (.ior, 1) := by decide +kernel
theorem dX0_spansMeet_60 : decode cX0_spansMeet 60 = .ok (.istore 4, 2) := by decide +kernel
theorem dX0_spansMeet_62 : decode cX0_spansMeet 62 = .ok (.iinc 5 1, 3) := by decide +kernel
theorem dX0_spansMeet_65 : decode cX0_spansMeet 65 = .ok (.goto (-59), 3) := by decide +kernel
theorem dX0_spansMeet_68 : decode cX0_spansMeet 68 = .ok (.iconst 0, 1) := by decide +kernel
theorem dX0_spansMeet_69 : decode cX0_spansMeet 69 = .ok (.istore 5, 2) := by decide +kernel
theorem dX0_spansMeet_71 : decode cX0_spansMeet 71 = .ok (.iload 5, 2) := by decide +kernel
theorem dX0_spansMeet_73 : decode cX0_spansMeet 73 = .ok (.sipush 160, 3) := by decide +kernel
theorem dX0_spansMeet_76 : decode cX0_spansMeet 76 = .ok (.if_icmp .gt 22, 3) := by decide +kernel
theorem dX0_spansMeet_79 : decode cX0_spansMeet 79 = .ok (.aload_n 0, 1) := by decide +kernel
theorem dX0_spansMeet_80 : decode cX0_spansMeet 80 = .ok (.iload 4, 2) := by decide +kernel
theorem dX0_spansMeet_82 : decode cX0_spansMeet 82 = .ok (.iload 5, 2) := by decide +kernel
theorem dX0_spansMeet_84 : decode cX0_spansMeet 84 = .ok (.invokevirtual 102, 3) := by decide +kernel
theorem dX0_spansMeet_87 : decode cX0_spansMeet 87 = .ok (.ifCond .eq 5, 3) := by decide +kernel
theorem dX0_spansMeet_90 : decode cX0_spansMeet 90 = .ok (.iconst 1, 1) := by decide +kernel
theorem dX0_spansMeet_91 : decode cX0_spansMeet 91 = .ok (.ireturn, 1) := by decide +kernel
theorem dX0_spansMeet_92 : decode cX0_spansMeet 92 = .ok (.iinc 5 1, 3) := by decide +kernel
theorem dX0_spansMeet_95 : decode cX0_spansMeet 95 = .ok (.goto (-24), 3) := by decide +kernel
theorem dX0_spansMeet_98 : decode cX0_spansMeet 98 = .ok (.iconst 0, 1) := by decide +kernel
theorem dX0_spansMeet_99 : decode cX0_spansMeet 99 = .ok (.ireturn, 1) := by decide +kernel
theorem dX0_placeByMade_0 : decode cX0_placeByMade 0 = .ok (.aload_n 0, 1) := by decide +kernel
theorem dX0_placeByMade_1 : decode cX0_placeByMade 1 = .ok (.getfield 20, 3) := by decide +kernel
theorem dX0_placeByMade_4 : decode cX0_placeByMade 4 = .ok (.iload_n 1, 1) := by decide +kernel
theorem dX0_placeByMade_5 : decode cX0_placeByMade 5 = .ok (.iconst 2, 1) := by decide +kernel
theorem dX0_placeByMade_6 : decode cX0_placeByMade 6 = .ok (.invokevirtual 54, 3) := by decide +kernel
theorem dX0_placeByMade_9 : decode cX0_placeByMade 9 = .ok (.istore_n 3, 1) := by decide +kernel
theorem dX0_placeByMade_10 : decode cX0_placeByMade 10 = .ok (.iconst 0, 1) := by decide +kernel
theorem dX0_placeByMade_11 : decode cX0_placeByMade 11 = .ok (.istore 4, 2) := by decide +kernel
theorem dX0_placeByMade_13 : decode cX0_placeByMade 13 = .ok (.iconst 0, 1) := by decide +kernel
theorem dX0_placeByMade_14 : decode cX0_placeByMade 14 = .ok (.istore 5, 2) := by decide +kernel
theorem dX0_placeByMade_16 : decode cX0_placeByMade 16 = .ok (.iload 5, 2) := by decide +kernel
theorem dX0_placeByMade_18 : decode cX0_placeByMade 18 = .ok (.aload_n 0, 1) := by decide +kernel
theorem dX0_placeByMade_19 : decode cX0_placeByMade 19 = .ok (.getfield 20, 3) := by decide +kernel
theorem dX0_placeByMade_22 : decode cX0_placeByMade 22 = .ok (.getfield 71, 3) := by decide +kernel
theorem dX0_placeByMade_25 : decode cX0_placeByMade 25 = .ok (.if_icmp .ge 55, 3) := by decide +kernel
theorem dX0_placeByMade_28 : decode cX0_placeByMade 28 = .ok (.aload_n 0, 1) := by decide +kernel
theorem dX0_placeByMade_29 : decode cX0_placeByMade 29 = .ok (.iload 5, 2) := by decide +kernel
theorem dX0_placeByMade_31 : decode cX0_placeByMade 31 = .ok (.iload_n 2, 1) := by decide +kernel
theorem dX0_placeByMade_32 : decode cX0_placeByMade 32 = .ok (.invokevirtual 74, 3) := by decide +kernel
theorem dX0_placeByMade_35 : decode cX0_placeByMade 35 = .ok (.ifCond .ne 6, 3) := by decide +kernel
theorem dX0_placeByMade_38 : decode cX0_placeByMade 38 = .ok (.goto 36, 3) := by decide +kernel
theorem dX0_placeByMade_41 : decode cX0_placeByMade 41 = .ok (.aload_n 0, 1) := by decide +kernel
theorem dX0_placeByMade_42 : decode cX0_placeByMade 42 = .ok (.getfield 20, 3) := by decide +kernel
theorem dX0_placeByMade_45 : decode cX0_placeByMade 45 = .ok (.iload 5, 2) := by decide +kernel
theorem dX0_placeByMade_47 : decode cX0_placeByMade 47 = .ok (.iconst 2, 1) := by decide +kernel
theorem dX0_placeByMade_48 : decode cX0_placeByMade 48 = .ok (.invokevirtual 54, 3) := by decide +kernel
theorem dX0_placeByMade_51 : decode cX0_placeByMade 51 = .ok (.istore 6, 2) := by decide +kernel
theorem dX0_placeByMade_53 : decode cX0_placeByMade 53 = .ok (.iload 6, 2) := by decide +kernel
theorem dX0_placeByMade_55 : decode cX0_placeByMade 55 = .ok (.iload_n 3, 1) := by decide +kernel
theorem dX0_placeByMade_56 : decode cX0_placeByMade 56 = .ok (.if_icmp .lt 15, 3) := by decide +kernel
theorem dX0_placeByMade_59 : decode cX0_placeByMade 59 = .ok (.iload 6, 2) := by decide +kernel
theorem dX0_placeByMade_61 : decode cX0_placeByMade 61 = .ok (.iload_n 3, 1) := by decide +kernel
theorem dX0_placeByMade_62 : decode cX0_placeByMade 62 = .ok (.if_icmp .ne 12, 3) := by decide +kernel
theorem dX0_placeByMade_65 : decode cX0_placeByMade 65 = .ok (.iload 5, 2) := by decide +kernel
theorem dX0_placeByMade_67 : decode cX0_placeByMade 67 = .ok (.iload_n 1, 1) := by decide +kernel
theorem dX0_placeByMade_68 : decode cX0_placeByMade 68 = .ok (.if_icmp .ge 6, 3) := by decide +kernel
theorem dX0_placeByMade_71 : decode cX0_placeByMade 71 = .ok (.iinc 4 1, 3) := by decide +kernel
theorem dX0_placeByMade_74 : decode cX0_placeByMade 74 = .ok (.iinc 5 1, 3) := by decide +kernel
theorem dX0_placeByMade_77 : decode cX0_placeByMade 77 = .ok (.goto (-61), 3) := by decide +kernel
theorem dX0_placeByMade_80 : decode cX0_placeByMade 80 = .ok (.iload 4, 2) := by decide +kernel
theorem dX0_placeByMade_82 : decode cX0_placeByMade 82 = .ok (.ireturn, 1) := by decide +kernel
theorem dX0_areAllInSpan_0 : decode cX0_areAllInSpan 0 = .ok (.iconst 0, 1) := by decide +kernel
theorem dX0_areAllInSpan_1 : decode cX0_areAllInSpan 1 = .ok (.istore_n 3, 1) := by decide +kernel
theorem dX0_areAllInSpan_2 : decode cX0_areAllInSpan 2 = .ok (.iload_n 3, 1) := by decide +kernel
theorem dX0_areAllInSpan_3 : decode cX0_areAllInSpan 3 = .ok (.aload_n 0, 1) := by decide +kernel
theorem dX0_areAllInSpan_4 : decode cX0_areAllInSpan 4 = .ok (.getfield 20, 3) := by decide +kernel
theorem dX0_areAllInSpan_7 : decode cX0_areAllInSpan 7 = .ok (.getfield 71, 3) := by decide +kernel
theorem dX0_areAllInSpan_10 : decode cX0_areAllInSpan 10 = .ok (.if_icmp .ge 29, 3) := by decide +kernel
theorem dX0_areAllInSpan_13 : decode cX0_areAllInSpan 13 = .ok (.iload_n 1, 1) := by decide +kernel
theorem dX0_areAllInSpan_14 : decode cX0_areAllInSpan 14 = .ok (.iload_n 3, 1) := by decide +kernel
theorem dX0_areAllInSpan_15 : decode cX0_areAllInSpan 15 = .ok (.invokestatic 78, 3) := by decide +kernel
theorem dX0_areAllInSpan_18 : decode cX0_areAllInSpan 18 = .ok (.iand, 1) := by decide +kernel
theorem dX0_areAllInSpan_19 : decode cX0_areAllInSpan 19 = .ok (.ifCond .eq 14, 3) := by decide +kernel
theorem dX0_areAllInSpan_22 : decode cX0_areAllInSpan 22 = .ok (.aload_n 0, 1) := by decide +kernel
theorem dX0_areAllInSpan_23 : decode cX0_areAllInSpan 23 = .ok (.iload_n 3, 1) := by decide +kernel
theorem dX0_areAllInSpan_24 : decode cX0_areAllInSpan 24 = .ok (.iload_n 2, 1) := by decide +kernel
theorem dX0_areAllInSpan_25 : decode cX0_areAllInSpan 25 = .ok (.invokevirtual 96, 3) := by decide +kernel
theorem dX0_areAllInSpan_28 : decode cX0_areAllInSpan 28 = .ok (.ifCond .ne 5, 3) := by decide +kernel
theorem dX0_areAllInSpan_31 : decode cX0_areAllInSpan 31 = .ok (.iconst 0, 1) := by decide +kernel
theorem dX0_areAllInSpan_32 : decode cX0_areAllInSpan 32 = .ok (.ireturn, 1) := by decide +kernel
theorem dX0_areAllInSpan_33 : decode cX0_areAllInSpan 33 = .ok (.iinc 3 1, 3) := by decide +kernel
theorem dX0_areAllInSpan_36 : decode cX0_areAllInSpan 36 = .ok (.goto (-34), 3) := by decide +kernel
theorem dX0_areAllInSpan_39 : decode cX0_areAllInSpan 39 = .ok (.iconst 1, 1) := by decide +kernel
theorem dX0_areAllInSpan_40 : decode cX0_areAllInSpan 40 = .ok (.ireturn, 1) := by decide +kernel
theorem dX0_restsOn_0 : decode cX0_restsOn 0 = .ok (.aload_n 0, 1) := by decide +kernel
theorem dX0_restsOn_1 : decode cX0_restsOn 1 = .ok (.getfield 20, 3) := by decide +kernel
theorem dX0_restsOn_4 : decode cX0_restsOn 4 = .ok (.iload_n 1, 1) := by decide +kernel
theorem dX0_restsOn_5 : decode cX0_restsOn 5 = .ok (.iconst 5, 1) := by decide +kernel
theorem dX0_restsOn_6 : decode cX0_restsOn 6 = .ok (.invokevirtual 54, 3) := by decide +kernel
theorem dX0_restsOn_9 : decode cX0_restsOn 9 = .ok (.istore_n 2, 1) := by decide +kernel
theorem dX0_restsOn_10 : decode cX0_restsOn 10 = .ok (.aload_n 0, 1) := by decide +kernel
theorem dX0_restsOn_11 : decode cX0_restsOn 11 = .ok (.getfield 20, 3) := by decide +kernel
theorem dX0_restsOn_14 : decode cX0_restsOn 14 = .ok (.iload_n 1, 1) := by decide +kernel
theorem dX0_restsOn_15 : decode cX0_restsOn 15 = .ok (.bipush 6, 2) := by decide +kernel
theorem dX0_restsOn_17 : decode cX0_restsOn 17 = .ok (.invokevirtual 54, 3) := by decide +kernel
theorem dX0_restsOn_20 : decode cX0_restsOn 20 = .ok (.aload_n 0, 1) := by decide +kernel
theorem dX0_restsOn_21 : decode cX0_restsOn 21 = .ok (.getfield 20, 3) := by decide +kernel
theorem dX0_restsOn_24 : decode cX0_restsOn 24 = .ok (.iload_n 2, 1) := by decide +kernel
theorem dX0_restsOn_25 : decode cX0_restsOn 25 = .ok (.invokevirtual 58, 3) := by decide +kernel
theorem dX0_restsOn_28 : decode cX0_restsOn 28 = .ok (.ifCond .eq 10, 3) := by decide +kernel
theorem dX0_restsOn_31 : decode cX0_restsOn 31 = .ok (.iload_n 2, 1) := by decide +kernel
theorem dX0_restsOn_32 : decode cX0_restsOn 32 = .ok (.invokestatic 78, 3) := by decide +kernel
theorem dX0_restsOn_35 : decode cX0_restsOn 35 = .ok (.goto 4, 3) := by decide +kernel
theorem dX0_restsOn_38 : decode cX0_restsOn 38 = .ok (.iconst 0, 1) := by decide +kernel
theorem dX0_restsOn_39 : decode cX0_restsOn 39 = .ok (.ior, 1) := by decide +kernel
theorem dX0_restsOn_40 : decode cX0_restsOn 40 = .ok (.ireturn, 1) := by decide +kernel
theorem dX0_restingOnNone_0 : decode cX0_restingOnNone 0 = .ok (.iconst 0, 1) := by decide +kernel
theorem dX0_restingOnNone_1 : decode cX0_restingOnNone 1 = .ok (.istore_n 1, 1) := by decide +kernel
theorem dX0_restingOnNone_2 : decode cX0_restingOnNone 2 = .ok (.iconst 0, 1) := by decide +kernel
theorem dX0_restingOnNone_3 : decode cX0_restingOnNone 3 = .ok (.istore_n 2, 1) := by decide +kernel
theorem dX0_restingOnNone_4 : decode cX0_restingOnNone 4 = .ok (.iload_n 2, 1) := by decide +kernel
theorem dX0_restingOnNone_5 : decode cX0_restingOnNone 5 = .ok (.aload_n 0, 1) := by decide +kernel
theorem dX0_restingOnNone_6 : decode cX0_restingOnNone 6 = .ok (.getfield 20, 3) := by decide +kernel
theorem dX0_restingOnNone_9 : decode cX0_restingOnNone 9 = .ok (.getfield 71, 3) := by decide +kernel
theorem dX0_restingOnNone_12 : decode cX0_restingOnNone 12 = .ok (.if_icmp .ge 24, 3) := by decide +kernel
theorem dX0_restingOnNone_15 : decode cX0_restingOnNone 15 = .ok (.aload_n 0, 1) := by decide +kernel
theorem dX0_restingOnNone_16 : decode cX0_restingOnNone 16 = .ok (.iload_n 2, 1) := by decide +kernel
theorem dX0_restingOnNone_17 : decode cX0_restingOnNone 17 = .ok (.invokevirtual 105, 3) := by decide +kernel
theorem dX0_restingOnNone_20 : decode cX0_restingOnNone 20 = .ok (.ifCond .ne 10, 3) := by decide +kernel
theorem dX0_restingOnNone_23 : decode cX0_restingOnNone 23 = .ok (.iload_n 1, 1) := by decide +kernel
theorem dX0_restingOnNone_24 : decode cX0_restingOnNone 24 = .ok (.iload_n 2, 1) := by decide +kernel
theorem dX0_restingOnNone_25 : decode cX0_restingOnNone 25 = .ok (.invokestatic 78, 3) := by decide +kernel
theorem dX0_restingOnNone_28 : decode cX0_restingOnNone 28 = .ok (.ior, 1) := by decide +kernel
theorem dX0_restingOnNone_29 : decode cX0_restingOnNone 29 = .ok (.istore_n 1, 1) := by decide +kernel
theorem dX0_restingOnNone_30 : decode cX0_restingOnNone 30 = .ok (.iinc 2 1, 3) := by decide +kernel
theorem dX0_restingOnNone_33 : decode cX0_restingOnNone 33 = .ok (.goto (-29), 3) := by decide +kernel
theorem dX0_restingOnNone_36 : decode cX0_restingOnNone 36 = .ok (.iload_n 1, 1) := by decide +kernel
theorem dX0_restingOnNone_37 : decode cX0_restingOnNone 37 = .ok (.ireturn, 1) := by decide +kernel
theorem dX0_standing_0 : decode cX0_standing 0 = .ok (.iconst 0, 1) := by decide +kernel
theorem dX0_standing_1 : decode cX0_standing 1 = .ok (.istore_n 1, 1) := by decide +kernel
theorem dX0_standing_2 : decode cX0_standing 2 = .ok (.iconst 0, 1) := by decide +kernel
theorem dX0_standing_3 : decode cX0_standing 3 = .ok (.istore_n 2, 1) := by decide +kernel
theorem dX0_standing_4 : decode cX0_standing 4 = .ok (.iload_n 2, 1) := by decide +kernel
theorem dX0_standing_5 : decode cX0_standing 5 = .ok (.bipush 30, 2) := by decide +kernel
theorem dX0_standing_7 : decode cX0_standing 7 = .ok (.if_icmp .gt 68, 3) := by decide +kernel
theorem dX0_standing_10 : decode cX0_standing 10 = .ok (.iload_n 1, 1) := by decide +kernel
theorem dX0_standing_11 : decode cX0_standing 11 = .ok (.istore_n 3, 1) := by decide +kernel
theorem dX0_standing_12 : decode cX0_standing 12 = .ok (.iconst 0, 1) := by decide +kernel
theorem dX0_standing_13 : decode cX0_standing 13 = .ok (.istore 4, 2) := by decide +kernel
theorem dX0_standing_15 : decode cX0_standing 15 = .ok (.iload 4, 2) := by decide +kernel
theorem dX0_standing_17 : decode cX0_standing 17 = .ok (.aload_n 0, 1) := by decide +kernel
theorem dX0_standing_18 : decode cX0_standing 18 = .ok (.getfield 20, 3) := by decide +kernel
theorem dX0_standing_21 : decode cX0_standing 21 = .ok (.getfield 71, 3) := by decide +kernel
theorem dX0_standing_24 : decode cX0_standing 24 = .ok (.if_icmp .ge 37, 3) := by decide +kernel
theorem dX0_standing_27 : decode cX0_standing 27 = .ok (.aload_n 0, 1) := by decide +kernel
theorem dX0_standing_28 : decode cX0_standing 28 = .ok (.iload 4, 2) := by decide +kernel
theorem dX0_standing_30 : decode cX0_standing 30 = .ok (.invokevirtual 105, 3) := by decide +kernel
theorem dX0_standing_33 : decode cX0_standing 33 = .ok (.istore 5, 2) := by decide +kernel
theorem dX0_standing_35 : decode cX0_standing 35 = .ok (.iload 5, 2) := by decide +kernel
theorem dX0_standing_37 : decode cX0_standing 37 = .ok (.ifCond .eq 10, 3) := by decide +kernel
theorem dX0_standing_40 : decode cX0_standing 40 = .ok (.iload 5, 2) := by decide +kernel
theorem dX0_standing_42 : decode cX0_standing 42 = .ok (.iload_n 1, 1) := by decide +kernel
theorem dX0_standing_43 : decode cX0_standing 43 = .ok (.iand, 1) := by decide +kernel
theorem dX0_standing_44 : decode cX0_standing 44 = .ok (.ifCond .eq 11, 3) := by decide +kernel
theorem dX0_standing_47 : decode cX0_standing 47 = .ok (.iload_n 1, 1) := by decide +kernel
theorem dX0_standing_48 : decode cX0_standing 48 = .ok (.iload 4, 2) := by decide +kernel
theorem dX0_standing_50 : decode cX0_standing 50 = .ok (.invokestatic 78, 3) := by decide +kernel
theorem dX0_standing_53 : decode cX0_standing 53 = .ok (.ior, 1) := by decide +kernel
theorem dX0_standing_54 : decode cX0_standing 54 = .ok (.istore_n 1, 1) := by decide +kernel
theorem dX0_standing_55 : decode cX0_standing 55 = .ok (.iinc 4 1, 3) := by decide +kernel
theorem dX0_standing_58 : decode cX0_standing 58 = .ok (.goto (-43), 3) := by decide +kernel
theorem dX0_standing_61 : decode cX0_standing 61 = .ok (.iload_n 1, 1) := by decide +kernel
theorem dX0_standing_62 : decode cX0_standing 62 = .ok (.iload_n 3, 1) := by decide +kernel
theorem dX0_standing_63 : decode cX0_standing 63 = .ok (.if_icmp .ne 6, 3) := by decide +kernel
theorem dX0_standing_66 : decode cX0_standing 66 = .ok (.goto 9, 3) := by decide +kernel
theorem dX0_standing_69 : decode cX0_standing 69 = .ok (.iinc 2 1, 3) := by decide +kernel
theorem dX0_standing_72 : decode cX0_standing 72 = .ok (.goto (-68), 3) := by decide +kernel
theorem dX0_standing_75 : decode cX0_standing 75 = .ok (.iload_n 1, 1) := by decide +kernel
theorem dX0_standing_76 : decode cX0_standing 76 = .ok (.ireturn, 1) := by decide +kernel
theorem dX0_restsOver_0 : decode cX0_restsOver 0 = .ok (.aload_n 0, 1) := by decide +kernel
theorem dX0_restsOver_1 : decode cX0_restsOver 1 = .ok (.iload_n 1, 1) := by decide +kernel
theorem dX0_restsOver_2 : decode cX0_restsOver 2 = .ok (.invokevirtual 105, 3) := by decide +kernel
theorem dX0_restsOver_5 : decode cX0_restsOver 5 = .ok (.istore_n 2, 1) := by decide +kernel
theorem dX0_restsOver_6 : decode cX0_restsOver 6 = .ok (.iconst 0, 1) := by decide +kernel
theorem dX0_restsOver_7 : decode cX0_restsOver 7 = .ok (.istore_n 3, 1) := by decide +kernel
theorem dX0_restsOver_8 : decode cX0_restsOver 8 = .ok (.iload_n 3, 1) := by decide +kernel
theorem dX0_restsOver_9 : decode cX0_restsOver 9 = .ok (.bipush 30, 2) := by decide +kernel
theorem dX0_restsOver_11 : decode cX0_restsOver 11 = .ok (.if_icmp .ge 61, 3) := by decide +kernel
theorem dX0_restsOver_14 : decode cX0_restsOver 14 = .ok (.iload_n 2, 1) := by decide +kernel
theorem dX0_restsOver_15 : decode cX0_restsOver 15 = .ok (.istore 4, 2) := by decide +kernel
theorem dX0_restsOver_17 : decode cX0_restsOver 17 = .ok (.iconst 0, 1) := by decide +kernel
theorem dX0_restsOver_18 : decode cX0_restsOver 18 = .ok (.istore 5, 2) := by decide +kernel
theorem dX0_restsOver_20 : decode cX0_restsOver 20 = .ok (.iload 5, 2) := by decide +kernel
theorem dX0_restsOver_22 : decode cX0_restsOver 22 = .ok (.aload_n 0, 1) := by decide +kernel
theorem dX0_restsOver_23 : decode cX0_restsOver 23 = .ok (.getfield 20, 3) := by decide +kernel
theorem dX0_restsOver_26 : decode cX0_restsOver 26 = .ok (.getfield 71, 3) := by decide +kernel
theorem dX0_restsOver_29 : decode cX0_restsOver 29 = .ok (.if_icmp .ge 28, 3) := by decide +kernel
theorem dX0_restsOver_32 : decode cX0_restsOver 32 = .ok (.iload_n 2, 1) := by decide +kernel
theorem dX0_restsOver_33 : decode cX0_restsOver 33 = .ok (.iload 5, 2) := by decide +kernel
theorem dX0_restsOver_35 : decode cX0_restsOver 35 = .ok (.invokestatic 78, 3) := by decide +kernel
theorem dX0_restsOver_38 : decode cX0_restsOver 38 = .ok (.iand, 1) := by decide +kernel
theorem dX0_restsOver_39 : decode cX0_restsOver 39 = .ok (.ifCond .eq 12, 3) := by decide +kernel
theorem dX0_restsOver_42 : decode cX0_restsOver 42 = .ok (.iload_n 2, 1) := by decide +kernel
theorem dX0_restsOver_43 : decode cX0_restsOver 43 = .ok (.aload_n 0, 1) := by decide +kernel
theorem dX0_restsOver_44 : decode cX0_restsOver 44 = .ok (.iload 5, 2) := by decide +kernel
theorem dX0_restsOver_46 : decode cX0_restsOver 46 = .ok (.invokevirtual 105, 3) := by decide +kernel
theorem dX0_restsOver_49 : decode cX0_restsOver 49 = .ok (.ior, 1) := by decide +kernel
theorem dX0_restsOver_50 : decode cX0_restsOver 50 = .ok (.istore_n 2, 1) := by decide +kernel
theorem dX0_restsOver_51 : decode cX0_restsOver 51 = .ok (.iinc 5 1, 3) := by decide +kernel
theorem dX0_restsOver_54 : decode cX0_restsOver 54 = .ok (.goto (-34), 3) := by decide +kernel
theorem dX0_restsOver_57 : decode cX0_restsOver 57 = .ok (.iload_n 2, 1) := by decide +kernel
theorem dX0_restsOver_58 : decode cX0_restsOver 58 = .ok (.iload 4, 2) := by decide +kernel
theorem dX0_restsOver_60 : decode cX0_restsOver 60 = .ok (.if_icmp .ne 6, 3) := by decide +kernel
theorem dX0_restsOver_63 : decode cX0_restsOver 63 = .ok (.goto 9, 3) := by decide +kernel
theorem dX0_restsOver_66 : decode cX0_restsOver 66 = .ok (.iinc 3 1, 3) := by decide +kernel
theorem dX0_restsOver_69 : decode cX0_restsOver 69 = .ok (.goto (-61), 3) := by decide +kernel
theorem dX0_restsOver_72 : decode cX0_restsOver 72 = .ok (.iload_n 2, 1) := by decide +kernel
theorem dX0_restsOver_73 : decode cX0_restsOver 73 = .ok (.ireturn, 1) := by decide +kernel
theorem dX0_paidBehindSeen_0 : decode cX0_paidBehindSeen 0 = .ok (.aload_n 0, 1) := by decide +kernel
theorem dX0_paidBehindSeen_1 : decode cX0_paidBehindSeen 1 = .ok (.iload_n 1, 1) := by decide +kernel
theorem dX0_paidBehindSeen_2 : decode cX0_paidBehindSeen 2 = .ok (.invokevirtual 108, 3) := by decide +kernel
theorem dX0_paidBehindSeen_5 : decode cX0_paidBehindSeen 5 = .ok (.istore_n 2, 1) := by decide +kernel
theorem dX0_paidBehindSeen_6 : decode cX0_paidBehindSeen 6 = .ok (.iconst 0, 1) := by decide +kernel
theorem dX0_paidBehindSeen_7 : decode cX0_paidBehindSeen 7 = .ok (.istore_n 3, 1) := by decide +kernel
theorem dX0_paidBehindSeen_8 : decode cX0_paidBehindSeen 8 = .ok (.iconst 0, 1) := by decide +kernel
theorem dX0_paidBehindSeen_9 : decode cX0_paidBehindSeen 9 = .ok (.istore 4, 2) := by decide +kernel
theorem dX0_paidBehindSeen_11 : decode cX0_paidBehindSeen 11 = .ok (.iload 4, 2) := by decide +kernel
theorem dX0_paidBehindSeen_13 : decode cX0_paidBehindSeen 13 = .ok (.aload_n 0, 1) := by decide +kernel
theorem dX0_paidBehindSeen_14 : decode cX0_paidBehindSeen 14 = .ok (.getfield 26, 3) := by decide +kernel
theorem dX0_paidBehindSeen_17 : decode cX0_paidBehindSeen 17 = .ok (.getfield 71, 3) := by decide +kernel
theorem dX0_paidBehindSeen_20 : decode cX0_paidBehindSeen 20 = .ok (.if_icmp .ge 81, 3) := by decide +kernel
theorem dX0_paidBehindSeen_23 : decode cX0_paidBehindSeen 23 = .ok (.aload_n 0, 1) := by decide +kernel
theorem dX0_paidBehindSeen_24 : decode cX0_paidBehindSeen 24 = .ok (.getfield 26, 3) := by decide +kernel
theorem dX0_paidBehindSeen_27 : decode cX0_paidBehindSeen 27 = .ok (.iload 4, 2) := by decide +kernel
theorem dX0_paidBehindSeen_29 : decode cX0_paidBehindSeen 29 = .ok (.iconst 0, 1) := by decide +kernel
theorem dX0_paidBehindSeen_30 : decode cX0_paidBehindSeen 30 = .ok (.invokevirtual 54, 3) := by decide +kernel
theorem dX0_paidBehindSeen_33 : decode cX0_paidBehindSeen 33 = .ok (.iload_n 1, 1) := by decide +kernel
theorem dX0_paidBehindSeen_34 : decode cX0_paidBehindSeen 34 = .ok (.if_icmp .eq 6, 3) := by decide +kernel
theorem dX0_paidBehindSeen_37 : decode cX0_paidBehindSeen 37 = .ok (.goto 58, 3) := by decide +kernel
theorem dX0_paidBehindSeen_40 : decode cX0_paidBehindSeen 40 = .ok (.aload_n 0, 1) := by decide +kernel
theorem dX0_paidBehindSeen_41 : decode cX0_paidBehindSeen 41 = .ok (.getfield 26, 3) := by decide +kernel
theorem dX0_paidBehindSeen_44 : decode cX0_paidBehindSeen 44 = .ok (.iload 4, 2) := by decide +kernel
theorem dX0_paidBehindSeen_46 : decode cX0_paidBehindSeen 46 = .ok (.iconst 1, 1) := by decide +kernel
theorem dX0_paidBehindSeen_47 : decode cX0_paidBehindSeen 47 = .ok (.invokevirtual 54, 3) := by decide +kernel
theorem dX0_paidBehindSeen_50 : decode cX0_paidBehindSeen 50 = .ok (.iload_n 2, 1) := by decide +kernel
theorem dX0_paidBehindSeen_51 : decode cX0_paidBehindSeen 51 = .ok (.iconst 1, 1) := by decide +kernel
theorem dX0_paidBehindSeen_52 : decode cX0_paidBehindSeen 52 = .ok (.iadd, 1) := by decide +kernel
theorem dX0_paidBehindSeen_53 : decode cX0_paidBehindSeen 53 = .ok (.invokestatic 81, 3) := by decide +kernel
theorem dX0_paidBehindSeen_56 : decode cX0_paidBehindSeen 56 = .ok (.istore 5, 2) := by decide +kernel
theorem dX0_paidBehindSeen_58 : decode cX0_paidBehindSeen 58 = .ok (.iconst 0, 1) := by decide +kernel
theorem dX0_paidBehindSeen_59 : decode cX0_paidBehindSeen 59 = .ok (.aload_n 0, 1) := by decide +kernel
theorem dX0_paidBehindSeen_60 : decode cX0_paidBehindSeen 60 = .ok (.getfield 26, 3) := by decide +kernel
theorem dX0_paidBehindSeen_63 : decode cX0_paidBehindSeen 63 = .ok (.iload 4, 2) := by decide +kernel
theorem dX0_paidBehindSeen_65 : decode cX0_paidBehindSeen 65 = .ok (.iconst 2, 1) := by decide +kernel
theorem dX0_paidBehindSeen_66 : decode cX0_paidBehindSeen 66 = .ok (.invokevirtual 54, 3) := by decide +kernel
theorem dX0_paidBehindSeen_69 : decode cX0_paidBehindSeen 69 = .ok (.iload 5, 2) := by decide +kernel
theorem dX0_paidBehindSeen_71 : decode cX0_paidBehindSeen 71 = .ok (.isub, 1) := by decide +kernel
theorem dX0_paidBehindSeen_72 : decode cX0_paidBehindSeen 72 = .ok (.iconst 1, 1) := by decide +kernel
theorem dX0_paidBehindSeen_73 : decode cX0_paidBehindSeen 73 = .ok (.iadd, 1) := by decide +kernel
theorem dX0_paidBehindSeen_74 : decode cX0_paidBehindSeen 74 = .ok (.invokestatic 81, 3) := by decide +kernel
theorem dX0_paidBehindSeen_77 : decode cX0_paidBehindSeen 77 = .ok (.istore 6, 2) := by decide +kernel
theorem dX0_paidBehindSeen_79 : decode cX0_paidBehindSeen 79 = .ok (.iload_n 3, 1) := by decide +kernel
theorem dX0_paidBehindSeen_80 : decode cX0_paidBehindSeen 80 = .ok (.iload 6, 2) := by decide +kernel
theorem dX0_paidBehindSeen_82 : decode cX0_paidBehindSeen 82 = .ok (.aload_n 0, 1) := by decide +kernel
theorem dX0_paidBehindSeen_83 : decode cX0_paidBehindSeen 83 = .ok (.getfield 26, 3) := by decide +kernel
theorem dX0_paidBehindSeen_86 : decode cX0_paidBehindSeen 86 = .ok (.iload 4, 2) := by decide +kernel
theorem dX0_paidBehindSeen_88 : decode cX0_paidBehindSeen 88 = .ok (.iconst 3, 1) := by decide +kernel
theorem dX0_paidBehindSeen_89 : decode cX0_paidBehindSeen 89 = .ok (.invokevirtual 54, 3) := by decide +kernel
theorem dX0_paidBehindSeen_92 : decode cX0_paidBehindSeen 92 = .ok (.imul, 1) := by decide +kernel
theorem dX0_paidBehindSeen_93 : decode cX0_paidBehindSeen 93 = .ok (.iadd, 1) := by decide +kernel
theorem dX0_paidBehindSeen_94 : decode cX0_paidBehindSeen 94 = .ok (.istore_n 3, 1) := by decide +kernel
theorem dX0_paidBehindSeen_95 : decode cX0_paidBehindSeen 95 = .ok (.iinc 4 1, 3) := by decide +kernel
theorem dX0_paidBehindSeen_98 : decode cX0_paidBehindSeen 98 = .ok (.goto (-87), 3) := by decide +kernel
theorem dX0_paidBehindSeen_101 : decode cX0_paidBehindSeen 101 = .ok (.iload_n 3, 1) := by decide +kernel
theorem dX0_paidBehindSeen_102 : decode cX0_paidBehindSeen 102 = .ok (.ireturn, 1) := by decide +kernel
theorem dX0_counts_0 : decode cX0_counts 0 = .ok (.iconst 0, 1) := by decide +kernel
theorem dX0_counts_1 : decode cX0_counts 1 = .ok (.istore_n 1, 1) := by decide +kernel
theorem dX0_counts_2 : decode cX0_counts 2 = .ok (.iconst 0, 1) := by decide +kernel
theorem dX0_counts_3 : decode cX0_counts 3 = .ok (.istore_n 2, 1) := by decide +kernel
theorem dX0_counts_4 : decode cX0_counts 4 = .ok (.iload_n 2, 1) := by decide +kernel
theorem dX0_counts_5 : decode cX0_counts 5 = .ok (.aload_n 0, 1) := by decide +kernel
theorem dX0_counts_6 : decode cX0_counts 6 = .ok (.getfield 20, 3) := by decide +kernel
theorem dX0_counts_9 : decode cX0_counts 9 = .ok (.getfield 71, 3) := by decide +kernel
theorem dX0_counts_12 : decode cX0_counts 12 = .ok (.if_icmp .ge 25, 3) := by decide +kernel
theorem dX0_counts_15 : decode cX0_counts 15 = .ok (.aload_n 0, 1) := by decide +kernel
theorem dX0_counts_16 : decode cX0_counts 16 = .ok (.getfield 20, 3) := by decide +kernel
theorem dX0_counts_19 : decode cX0_counts 19 = .ok (.iload_n 2, 1) := by decide +kernel
theorem dX0_counts_20 : decode cX0_counts 20 = .ok (.iconst 1, 1) := by decide +kernel
theorem dX0_counts_21 : decode cX0_counts 21 = .ok (.invokevirtual 54, 3) := by decide +kernel
theorem dX0_counts_24 : decode cX0_counts 24 = .ok (.iconst 3, 1) := by decide +kernel
theorem dX0_counts_25 : decode cX0_counts 25 = .ok (.if_icmp .ne 6, 3) := by decide +kernel
theorem dX0_counts_28 : decode cX0_counts 28 = .ok (.iinc 1 1, 3) := by decide +kernel
theorem dX0_counts_31 : decode cX0_counts 31 = .ok (.iinc 2 1, 3) := by decide +kernel
theorem dX0_counts_34 : decode cX0_counts 34 = .ok (.goto (-30), 3) := by decide +kernel
theorem dX0_counts_37 : decode cX0_counts 37 = .ok (.iload_n 1, 1) := by decide +kernel
theorem dX0_counts_38 : decode cX0_counts 38 = .ok (.ireturn, 1) := by decide +kernel
theorem dX0_countsWithEnding_0 : decode cX0_countsWithEnding 0 = .ok (.iconst 0, 1) := by decide +kernel
theorem dX0_countsWithEnding_1 : decode cX0_countsWithEnding 1 = .ok (.istore_n 2, 1) := by decide +kernel
theorem dX0_countsWithEnding_2 : decode cX0_countsWithEnding 2 = .ok (.iconst 0, 1) := by decide +kernel
theorem dX0_countsWithEnding_3 : decode cX0_countsWithEnding 3 = .ok (.istore_n 3, 1) := by decide +kernel
theorem dX0_countsWithEnding_4 : decode cX0_countsWithEnding 4 = .ok (.iload_n 3, 1) := by decide +kernel
theorem dX0_countsWithEnding_5 : decode cX0_countsWithEnding 5 = .ok (.aload_n 0, 1) := by decide +kernel
theorem dX0_countsWithEnding_6 : decode cX0_countsWithEnding 6 = .ok (.getfield 20, 3) := by decide +kernel
theorem dX0_countsWithEnding_9 : decode cX0_countsWithEnding 9 = .ok (.getfield 71, 3) := by decide +kernel
theorem dX0_countsWithEnding_12 : decode cX0_countsWithEnding 12 = .ok (.if_icmp .ge 44, 3) := by decide +kernel
theorem dX0_countsWithEnding_15 : decode cX0_countsWithEnding 15 = .ok (.aload_n 0, 1) := by decide +kernel
theorem dX0_countsWithEnding_16 : decode cX0_countsWithEnding 16 = .ok (.getfield 20, 3) := by decide +kernel
theorem dX0_countsWithEnding_19 : decode cX0_countsWithEnding 19 = .ok (.iload_n 3, 1) := by decide +kernel
theorem dX0_countsWithEnding_20 : decode cX0_countsWithEnding 20 = .ok (.iconst 1, 1) := by decide +kernel
theorem dX0_countsWithEnding_21 : decode cX0_countsWithEnding 21 = .ok (.invokevirtual 54, 3) := by decide +kernel
theorem dX0_countsWithEnding_24 : decode cX0_countsWithEnding 24 = .ok (.iconst 3, 1) := by decide +kernel
theorem dX0_countsWithEnding_25 : decode cX0_countsWithEnding 25 = .ok (.if_icmp .eq 6, 3) := by decide +kernel
theorem dX0_countsWithEnding_28 : decode cX0_countsWithEnding 28 = .ok (.goto 22, 3) := by decide +kernel
theorem dX0_countsWithEnding_31 : decode cX0_countsWithEnding 31 = .ok (.aload_n 0, 1) := by decide +kernel
theorem dX0_countsWithEnding_32 : decode cX0_countsWithEnding 32 = .ok (.getfield 20, 3) := by decide +kernel
theorem dX0_countsWithEnding_35 : decode cX0_countsWithEnding 35 = .ok (.iload_n 3, 1) := by decide +kernel
theorem dX0_countsWithEnding_36 : decode cX0_countsWithEnding 36 = .ok (.iconst 3, 1) := by decide +kernel
theorem dX0_countsWithEnding_37 : decode cX0_countsWithEnding 37 = .ok (.invokevirtual 54, 3) := by decide +kernel
theorem dX0_countsWithEnding_40 : decode cX0_countsWithEnding 40 = .ok (.bipush 10, 2) := by decide +kernel
theorem dX0_countsWithEnding_42 : decode cX0_countsWithEnding 42 = .ok (.irem, 1) := by decide +kernel
theorem dX0_countsWithEnding_43 : decode cX0_countsWithEnding 43 = .ok (.iload_n 1, 1) := by decide +kernel
theorem dX0_countsWithEnding_44 : decode cX0_countsWithEnding 44 = .ok (.if_icmp .ne 6, 3) := by decide +kernel
theorem dX0_countsWithEnding_47 : decode cX0_countsWithEnding 47 = .ok (.iinc 2 1, 3) := by decide +kernel
theorem dX0_countsWithEnding_50 : decode cX0_countsWithEnding 50 = .ok (.iinc 3 1, 3) := by decide +kernel
theorem dX0_countsWithEnding_53 : decode cX0_countsWithEnding 53 = .ok (.goto (-49), 3) := by decide +kernel
theorem dX0_countsWithEnding_56 : decode cX0_countsWithEnding 56 = .ok (.iload_n 2, 1) := by decide +kernel
theorem dX0_countsWithEnding_57 : decode cX0_countsWithEnding 57 = .ok (.ireturn, 1) := by decide +kernel
theorem dX0_isLeftOut_0 : decode cX0_isLeftOut 0 = .ok (.iconst 0, 1) := by decide +kernel
theorem dX0_isLeftOut_1 : decode cX0_isLeftOut 1 = .ok (.istore_n 3, 1) := by decide +kernel
theorem dX0_isLeftOut_2 : decode cX0_isLeftOut 2 = .ok (.iload_n 3, 1) := by decide +kernel
theorem dX0_isLeftOut_3 : decode cX0_isLeftOut 3 = .ok (.aload_n 0, 1) := by decide +kernel
theorem dX0_isLeftOut_4 : decode cX0_isLeftOut 4 = .ok (.getfield 29, 3) := by decide +kernel
theorem dX0_isLeftOut_7 : decode cX0_isLeftOut 7 = .ok (.getfield 71, 3) := by decide +kernel
theorem dX0_isLeftOut_10 : decode cX0_isLeftOut 10 = .ok (.if_icmp .ge 80, 3) := by decide +kernel
theorem dX0_isLeftOut_13 : decode cX0_isLeftOut 13 = .ok (.aload_n 0, 1) := by decide +kernel
theorem dX0_isLeftOut_14 : decode cX0_isLeftOut 14 = .ok (.getfield 29, 3) := by decide +kernel
theorem dX0_isLeftOut_17 : decode cX0_isLeftOut 17 = .ok (.iload_n 3, 1) := by decide +kernel
theorem dX0_isLeftOut_18 : decode cX0_isLeftOut 18 = .ok (.iconst 0, 1) := by decide +kernel
theorem dX0_isLeftOut_19 : decode cX0_isLeftOut 19 = .ok (.invokevirtual 54, 3) := by decide +kernel
theorem dX0_isLeftOut_22 : decode cX0_isLeftOut 22 = .ok (.iload_n 1, 1) := by decide +kernel
theorem dX0_isLeftOut_23 : decode cX0_isLeftOut 23 = .ok (.if_icmp .eq 6, 3) := by decide +kernel
theorem dX0_isLeftOut_26 : decode cX0_isLeftOut 26 = .ok (.goto 58, 3) := by decide +kernel
theorem dX0_isLeftOut_29 : decode cX0_isLeftOut 29 = .ok (.aload_n 0, 1) := by decide +kernel
theorem dX0_isLeftOut_30 : decode cX0_isLeftOut 30 = .ok (.getfield 29, 3) := by decide +kernel
theorem dX0_isLeftOut_33 : decode cX0_isLeftOut 33 = .ok (.iload_n 3, 1) := by decide +kernel
theorem dX0_isLeftOut_34 : decode cX0_isLeftOut 34 = .ok (.iconst 3, 1) := by decide +kernel
theorem dX0_isLeftOut_35 : decode cX0_isLeftOut 35 = .ok (.invokevirtual 54, 3) := by decide +kernel
theorem dX0_isLeftOut_38 : decode cX0_isLeftOut 38 = .ok (.istore 4, 2) := by decide +kernel
theorem dX0_isLeftOut_40 : decode cX0_isLeftOut 40 = .ok (.iload_n 2, 1) := by decide +kernel
theorem dX0_isLeftOut_41 : decode cX0_isLeftOut 41 = .ok (.aload_n 0, 1) := by decide +kernel
theorem dX0_isLeftOut_42 : decode cX0_isLeftOut 42 = .ok (.getfield 29, 3) := by decide +kernel
theorem dX0_isLeftOut_45 : decode cX0_isLeftOut 45 = .ok (.iload_n 3, 1) := by decide +kernel
theorem dX0_isLeftOut_46 : decode cX0_isLeftOut 46 = .ok (.iconst 1, 1) := by decide +kernel
theorem dX0_isLeftOut_47 : decode cX0_isLeftOut 47 = .ok (.invokevirtual 54, 3) := by decide +kernel
theorem dX0_isLeftOut_50 : decode cX0_isLeftOut 50 = .ok (.if_icmp .le 7, 3) := by decide +kernel
theorem dX0_isLeftOut_53 : decode cX0_isLeftOut 53 = .ok (.iconst 1, 1) := by decide +kernel
theorem dX0_isLeftOut_54 : decode cX0_isLeftOut 54 = .ok (.goto 4, 3) := by decide +kernel
theorem dX0_isLeftOut_57 : decode cX0_isLeftOut 57 = .ok (.iconst 0, 1) := by decide +kernel
theorem dX0_isLeftOut_58 : decode cX0_isLeftOut 58 = .ok (.istore 5, 2) := by decide +kernel
theorem dX0_isLeftOut_60 : decode cX0_isLeftOut 60 = .ok (.iload 4, 2) := by decide +kernel
theorem dX0_isLeftOut_62 : decode cX0_isLeftOut 62 = .ok (.iconst 1, 1) := by decide +kernel
theorem dX0_isLeftOut_63 : decode cX0_isLeftOut 63 = .ok (.if_icmp .ne 8, 3) := by decide +kernel
theorem dX0_isLeftOut_66 : decode cX0_isLeftOut 66 = .ok (.iload 5, 2) := by decide +kernel
theorem dX0_isLeftOut_68 : decode cX0_isLeftOut 68 = .ok (.ifCond .ne 14, 3) := by decide +kernel
theorem dX0_isLeftOut_71 : decode cX0_isLeftOut 71 = .ok (.iload 4, 2) := by decide +kernel
theorem dX0_isLeftOut_73 : decode cX0_isLeftOut 73 = .ok (.iconst 2, 1) := by decide +kernel
theorem dX0_isLeftOut_74 : decode cX0_isLeftOut 74 = .ok (.if_icmp .ne 10, 3) := by decide +kernel
theorem dX0_isLeftOut_77 : decode cX0_isLeftOut 77 = .ok (.iload 5, 2) := by decide +kernel
theorem dX0_isLeftOut_79 : decode cX0_isLeftOut 79 = .ok (.ifCond .ne 5, 3) := by decide +kernel
theorem dX0_isLeftOut_82 : decode cX0_isLeftOut 82 = .ok (.iconst 1, 1) := by decide +kernel
theorem dX0_isLeftOut_83 : decode cX0_isLeftOut 83 = .ok (.ireturn, 1) := by decide +kernel
theorem dX0_isLeftOut_84 : decode cX0_isLeftOut 84 = .ok (.iinc 3 1, 3) := by decide +kernel
theorem dX0_isLeftOut_87 : decode cX0_isLeftOut 87 = .ok (.goto (-85), 3) := by decide +kernel
theorem dX0_isLeftOut_90 : decode cX0_isLeftOut 90 = .ok (.iconst 0, 1) := by decide +kernel
theorem dX0_isLeftOut_91 : decode cX0_isLeftOut 91 = .ok (.ireturn, 1) := by decide +kernel
theorem dX0_answered_0 : decode cX0_answered 0 = .ok (.iconst 0, 1) := by decide +kernel
theorem dX0_answered_1 : decode cX0_answered 1 = .ok (.istore_n 1, 1) := by decide +kernel
theorem dX0_answered_2 : decode cX0_answered 2 = .ok (.iconst 0, 1) := by decide +kernel
theorem dX0_answered_3 : decode cX0_answered 3 = .ok (.istore_n 2, 1) := by decide +kernel
theorem dX0_answered_4 : decode cX0_answered 4 = .ok (.iload_n 2, 1) := by decide +kernel
theorem dX0_answered_5 : decode cX0_answered 5 = .ok (.aload_n 0, 1) := by decide +kernel
theorem dX0_answered_6 : decode cX0_answered 6 = .ok (.getfield 29, 3) := by decide +kernel
theorem dX0_answered_9 : decode cX0_answered 9 = .ok (.getfield 71, 3) := by decide +kernel
theorem dX0_answered_12 : decode cX0_answered 12 = .ok (.if_icmp .ge 24, 3) := by decide +kernel
theorem dX0_answered_15 : decode cX0_answered 15 = .ok (.aload_n 0, 1) := by decide +kernel
theorem dX0_answered_16 : decode cX0_answered 16 = .ok (.getfield 29, 3) := by decide +kernel
theorem dX0_answered_19 : decode cX0_answered 19 = .ok (.iload_n 2, 1) := by decide +kernel
theorem dX0_answered_20 : decode cX0_answered 20 = .ok (.iconst 3, 1) := by decide +kernel
theorem dX0_answered_21 : decode cX0_answered 21 = .ok (.invokevirtual 54, 3) := by decide +kernel
theorem dX0_answered_24 : decode cX0_answered 24 = .ok (.ifCond .eq 6, 3) := by decide +kernel
theorem dX0_answered_27 : decode cX0_answered 27 = .ok (.iinc 1 1, 3) := by decide +kernel
theorem dX0_answered_30 : decode cX0_answered 30 = .ok (.iinc 2 1, 3) := by decide +kernel
theorem dX0_answered_33 : decode cX0_answered 33 = .ok (.goto (-29), 3) := by decide +kernel
theorem dX0_answered_36 : decode cX0_answered 36 = .ok (.iload_n 1, 1) := by decide +kernel
theorem dX0_answered_37 : decode cX0_answered 37 = .ok (.ireturn, 1) := by decide +kernel
theorem dX1_init_0 : decode cX1_init 0 = .ok (.aload_n 0, 1) := by decide +kernel
theorem dX1_init_1 : decode cX1_init 1 = .ok (.invokespecial 3, 3) := by decide +kernel
theorem dX1_init_4 : decode cX1_init 4 = .ok (.aload_n 0, 1) := by decide +kernel
theorem dX1_init_5 : decode cX1_init 5 = .ok (.new 9, 3) := by decide +kernel
theorem dX1_init_8 : decode cX1_init 8 = .ok (.dup, 1) := by decide +kernel
theorem dX1_init_9 : decode cX1_init 9 = .ok (.sipush 200, 3) := by decide +kernel
theorem dX1_init_12 : decode cX1_init 12 = .ok (.invokespecial 11, 3) := by decide +kernel
theorem dX1_init_15 : decode cX1_init 15 = .ok (.putfield 14, 3) := by decide +kernel
theorem dX1_init_18 : decode cX1_init 18 = .ok (.aload_n 0, 1) := by decide +kernel
theorem dX1_init_19 : decode cX1_init 19 = .ok (.iconst 0, 1) := by decide +kernel
theorem dX1_init_20 : decode cX1_init 20 = .ok (.putfield 20, 3) := by decide +kernel
theorem dX1_init_23 : decode cX1_init 23 = .ok (.aload_n 0, 1) := by decide +kernel
theorem dX1_init_24 : decode cX1_init 24 = .ok (.iconst 0, 1) := by decide +kernel
theorem dX1_init_25 : decode cX1_init 25 = .ok (.putfield 24, 3) := by decide +kernel
theorem dX1_init_28 : decode cX1_init 28 = .ok (.aload_n 0, 1) := by decide +kernel
theorem dX1_init_29 : decode cX1_init 29 = .ok (.iconst 0, 1) := by decide +kernel
theorem dX1_init_30 : decode cX1_init 30 = .ok (.putfield 27, 3) := by decide +kernel
theorem dX1_init_33 : decode cX1_init 33 = .ok (.aload_n 0, 1) := by decide +kernel
theorem dX1_init_34 : decode cX1_init 34 = .ok (.iconst 0, 1) := by decide +kernel
theorem dX1_init_35 : decode cX1_init 35 = .ok (.putfield 30, 3) := by decide +kernel
theorem dX1_init_38 : decode cX1_init 38 = .ok (.return_, 1) := by decide +kernel
theorem dX1_isTaken_0 : decode cX1_isTaken 0 = .ok (.aload_n 0, 1) := by decide +kernel
theorem dX1_isTaken_1 : decode cX1_isTaken 1 = .ok (.aload_n 1, 1) := by decide +kernel
theorem dX1_isTaken_2 : decode cX1_isTaken 2 = .ok (.aload_n 2, 1) := by decide +kernel
theorem dX1_isTaken_3 : decode cX1_isTaken 3 = .ok (.iload_n 3, 1) := by decide +kernel
theorem dX1_isTaken_4 : decode cX1_isTaken 4 = .ok (.invokevirtual 33, 3) := by decide +kernel
theorem dX1_isTaken_7 : decode cX1_isTaken 7 = .ok (.istore 4, 2) := by decide +kernel
theorem dX1_isTaken_9 : decode cX1_isTaken 9 = .ok (.iload 4, 2) := by decide +kernel
theorem dX1_isTaken_11 : decode cX1_isTaken 11 = .ok (.bipush (-3), 2) := by decide +kernel
theorem dX1_isTaken_13 : decode cX1_isTaken 13 = .ok (.if_icmp .eq 21, 3) := by decide +kernel
theorem dX1_isTaken_16 : decode cX1_isTaken 16 = .ok (.aload_n 1, 1) := by decide +kernel
theorem dX1_isTaken_17 : decode cX1_isTaken 17 = .ok (.getfield 37, 3) := by decide +kernel
theorem dX1_isTaken_20 : decode cX1_isTaken 20 = .ok (.iload 4, 2) := by decide +kernel
theorem dX1_isTaken_22 : decode cX1_isTaken 22 = .ok (.iconst 0, 1) := by decide +kernel
theorem dX1_isTaken_23 : decode cX1_isTaken 23 = .ok (.invokevirtual 43, 3) := by decide +kernel
theorem dX1_isTaken_26 : decode cX1_isTaken 26 = .ok (.iconst 1, 1) := by decide +kernel
theorem dX1_isTaken_27 : decode cX1_isTaken 27 = .ok (.if_icmp .ne 7, 3) := by decide +kernel
theorem dX1_isTaken_30 : decode cX1_isTaken 30 = .ok (.iconst 1, 1) := by decide +kernel
theorem dX1_isTaken_31 : decode cX1_isTaken 31 = .ok (.goto 4, 3) := by decide +kernel
theorem dX1_isTaken_34 : decode cX1_isTaken 34 = .ok (.iconst 0, 1) := by decide +kernel
theorem dX1_isTaken_35 : decode cX1_isTaken 35 = .ok (.ireturn, 1) := by decide +kernel
theorem dX1_clauseFor_0 : decode cX1_clauseFor 0 = .ok (.aload_n 2, 1) := by decide +kernel
theorem dX1_clauseFor_1 : decode cX1_clauseFor 1 = .ok (.aload_n 1, 1) := by decide +kernel
theorem dX1_clauseFor_2 : decode cX1_clauseFor 2 = .ok (.iload_n 3, 1) := by decide +kernel
theorem dX1_clauseFor_3 : decode cX1_clauseFor 3 = .ok (.invokevirtual 49, 3) := by decide +kernel
theorem dX1_clauseFor_6 : decode cX1_clauseFor 6 = .ok (.aload_n 0, 1) := by decide +kernel
theorem dX1_clauseFor_7 : decode cX1_clauseFor 7 = .ok (.aload_n 1, 1) := by decide +kernel
theorem dX1_clauseFor_8 : decode cX1_clauseFor 8 = .ok (.aload_n 2, 1) := by decide +kernel
theorem dX1_clauseFor_9 : decode cX1_clauseFor 9 = .ok (.iload_n 3, 1) := by decide +kernel
theorem dX1_clauseFor_10 : decode cX1_clauseFor 10 = .ok (.invokevirtual 55, 3) := by decide +kernel
theorem dX1_clauseFor_13 : decode cX1_clauseFor 13 = .ok (.iconst 0, 1) := by decide +kernel
theorem dX1_clauseFor_14 : decode cX1_clauseFor 14 = .ok (.istore 4, 2) := by decide +kernel
theorem dX1_clauseFor_16 : decode cX1_clauseFor 16 = .ok (.iload 4, 2) := by decide +kernel
theorem dX1_clauseFor_18 : decode cX1_clauseFor 18 = .ok (.aload_n 1, 1) := by decide +kernel
theorem dX1_clauseFor_19 : decode cX1_clauseFor 19 = .ok (.getfield 37, 3) := by decide +kernel
theorem dX1_clauseFor_22 : decode cX1_clauseFor 22 = .ok (.getfield 59, 3) := by decide +kernel
theorem dX1_clauseFor_25 : decode cX1_clauseFor 25 = .ok (.if_icmp .ge 23, 3) := by decide +kernel
theorem dX1_clauseFor_28 : decode cX1_clauseFor 28 = .ok (.aload_n 0, 1) := by decide +kernel
theorem dX1_clauseFor_29 : decode cX1_clauseFor 29 = .ok (.aload_n 1, 1) := by decide +kernel
theorem dX1_clauseFor_30 : decode cX1_clauseFor 30 = .ok (.aload_n 2, 1) := by decide +kernel
theorem dX1_clauseFor_31 : decode cX1_clauseFor 31 = .ok (.iload 4, 2) := by decide +kernel
theorem dX1_clauseFor_33 : decode cX1_clauseFor 33 = .ok (.invokevirtual 62, 3) := by decide +kernel
theorem dX1_clauseFor_36 : decode cX1_clauseFor 36 = .ok (.ifCond .eq 6, 3) := by decide +kernel
theorem dX1_clauseFor_39 : decode cX1_clauseFor 39 = .ok (.iload 4, 2) := by decide +kernel
theorem dX1_clauseFor_41 : decode cX1_clauseFor 41 = .ok (.ireturn, 1) := by decide +kernel
theorem dX1_clauseFor_42 : decode cX1_clauseFor 42 = .ok (.iinc 4 1, 3) := by decide +kernel
theorem dX1_clauseFor_45 : decode cX1_clauseFor 45 = .ok (.goto (-29), 3) := by decide +kernel
theorem dX1_clauseFor_48 : decode cX1_clauseFor 48 = .ok (.bipush (-3), 2) := by decide +kernel
theorem dX1_clauseFor_50 : decode cX1_clauseFor 50 = .ok (.ireturn, 1) := by decide +kernel
theorem dX1_learn_0 : decode cX1_learn 0 = .ok (.aload_n 1, 1) := by decide +kernel
theorem dX1_learn_1 : decode cX1_learn 1 = .ok (.iload_n 3, 1) := by decide +kernel
theorem dX1_learn_2 : decode cX1_learn 2 = .ok (.invokevirtual 66, 3) := by decide +kernel
theorem dX1_learn_5 : decode cX1_learn 5 = .ok (.istore 4, 2) := by decide +kernel
theorem dX1_learn_7 : decode cX1_learn 7 = .ok (.aload_n 0, 1) := by decide +kernel
theorem dX1_learn_8 : decode cX1_learn 8 = .ok (.iload 4, 2) := by decide +kernel
theorem dX1_learn_10 : decode cX1_learn 10 = .ok (.invokestatic 70, 3) := by decide +kernel
theorem dX1_learn_13 : decode cX1_learn 13 = .ok (.putfield 20, 3) := by decide +kernel
theorem dX1_learn_16 : decode cX1_learn 16 = .ok (.aload_n 0, 1) := by decide +kernel
theorem dX1_learn_17 : decode cX1_learn 17 = .ok (.iload 4, 2) := by decide +kernel
theorem dX1_learn_19 : decode cX1_learn 19 = .ok (.aload_n 1, 1) := by decide +kernel
theorem dX1_learn_20 : decode cX1_learn 20 = .ok (.invokevirtual 75, 3) := by decide +kernel
theorem dX1_learn_23 : decode cX1_learn 23 = .ok (.iand, 1) := by decide +kernel
theorem dX1_learn_24 : decode cX1_learn 24 = .ok (.invokestatic 70, 3) := by decide +kernel
theorem dX1_learn_27 : decode cX1_learn 27 = .ok (.putfield 24, 3) := by decide +kernel
theorem dX1_learn_30 : decode cX1_learn 30 = .ok (.aload_n 0, 1) := by decide +kernel
theorem dX1_learn_31 : decode cX1_learn 31 = .ok (.aload_n 1, 1) := by decide +kernel
theorem dX1_learn_32 : decode cX1_learn 32 = .ok (.getfield 79, 3) := by decide +kernel
theorem dX1_learn_35 : decode cX1_learn 35 = .ok (.iload_n 3, 1) := by decide +kernel
theorem dX1_learn_36 : decode cX1_learn 36 = .ok (.iconst 0, 1) := by decide +kernel
theorem dX1_learn_37 : decode cX1_learn 37 = .ok (.invokevirtual 43, 3) := by decide +kernel
theorem dX1_learn_40 : decode cX1_learn 40 = .ok (.putfield 27, 3) := by decide +kernel
theorem dX1_learn_43 : decode cX1_learn 43 = .ok (.aload_n 0, 1) := by decide +kernel
theorem dX1_learn_44 : decode cX1_learn 44 = .ok (.iconst 0, 1) := by decide +kernel
theorem dX1_learn_45 : decode cX1_learn 45 = .ok (.putfield 30, 3) := by decide +kernel
theorem dX1_learn_48 : decode cX1_learn 48 = .ok (.iconst 0, 1) := by decide +kernel
theorem dX1_learn_49 : decode cX1_learn 49 = .ok (.istore 5, 2) := by decide +kernel
theorem dX1_learn_51 : decode cX1_learn 51 = .ok (.iload 5, 2) := by decide +kernel
theorem dX1_learn_53 : decode cX1_learn 53 = .ok (.aload_n 1, 1) := by decide +kernel
theorem dX1_learn_54 : decode cX1_learn 54 = .ok (.getfield 82, 3) := by decide +kernel
theorem dX1_learn_57 : decode cX1_learn 57 = .ok (.getfield 59, 3) := by decide +kernel
theorem dX1_learn_60 : decode cX1_learn 60 = .ok (.if_icmp .ge 51, 3) := by decide +kernel
theorem dX1_learn_63 : decode cX1_learn 63 = .ok (.aload_n 2, 1) := by decide +kernel
theorem dX1_learn_64 : decode cX1_learn 64 = .ok (.getfield 84, 3) := by decide +kernel
theorem dX1_learn_67 : decode cX1_learn 67 = .ok (.bipush (-3), 2) := by decide +kernel
theorem dX1_learn_69 : decode cX1_learn 69 = .ok (.if_icmp .eq 42, 3) := by decide +kernel
theorem dX1_learn_72 : decode cX1_learn 72 = .ok (.aload_n 1, 1) := by decide +kernel
theorem dX1_learn_73 : decode cX1_learn 73 = .ok (.iload 5, 2) := by decide +kernel
theorem dX1_learn_75 : decode cX1_learn 75 = .ok (.iload_n 3, 1) := by decide +kernel
theorem dX1_learn_76 : decode cX1_learn 76 = .ok (.invokevirtual 87, 3) := by decide +kernel
theorem dX1_learn_79 : decode cX1_learn 79 = .ok (.ifCond .eq 26, 3) := by decide +kernel
theorem dX1_learn_82 : decode cX1_learn 82 = .ok (.aload_n 1, 1) := by decide +kernel
theorem dX1_learn_83 : decode cX1_learn 83 = .ok (.iload 5, 2) := by decide +kernel
theorem dX1_learn_85 : decode cX1_learn 85 = .ok (.aload_n 2, 1) := by decide +kernel
theorem dX1_learn_86 : decode cX1_learn 86 = .ok (.getfield 84, 3) := by decide +kernel
theorem dX1_learn_89 : decode cX1_learn 89 = .ok (.invokevirtual 91, 3) := by decide +kernel
theorem dX1_learn_92 : decode cX1_learn 92 = .ok (.ifCond .ne 13, 3) := by decide +kernel
theorem dX1_learn_95 : decode cX1_learn 95 = .ok (.aload_n 0, 1) := by decide +kernel
theorem dX1_learn_96 : decode cX1_learn 96 = .ok (.dup, 1) := by decide +kernel
theorem dX1_learn_97 : decode cX1_learn 97 = .ok (.getfield 30, 3) := by decide +kernel
theorem dX1_learn_100 : decode cX1_learn 100 = .ok (.iconst 1, 1) := by decide +kernel
theorem dX1_learn_101 : decode cX1_learn 101 = .ok (.iadd, 1) := by decide +kernel
theorem dX1_learn_102 : decode cX1_learn 102 = .ok (.putfield 30, 3) := by decide +kernel
theorem dX1_learn_105 : decode cX1_learn 105 = .ok (.iinc 5 1, 3) := by decide +kernel
theorem dX1_learn_108 : decode cX1_learn 108 = .ok (.goto (-57), 3) := by decide +kernel
theorem dX1_learn_111 : decode cX1_learn 111 = .ok (.return_, 1) := by decide +kernel
theorem dX1_holds_0 : decode cX1_holds 0 = .ok (.aload_n 0, 1) := by decide +kernel
theorem dX1_holds_1 : decode cX1_holds 1 = .ok (.getfield 14, 3) := by decide +kernel
theorem dX1_holds_4 : decode cX1_holds 4 = .ok (.invokevirtual 94, 3) := by decide +kernel
theorem dX1_holds_7 : decode cX1_holds 7 = .ok (.aload_n 1, 1) := by decide +kernel
theorem dX1_holds_8 : decode cX1_holds 8 = .ok (.getfield 37, 3) := by decide +kernel
theorem dX1_holds_11 : decode cX1_holds 11 = .ok (.iload_n 3, 1) := by decide +kernel
theorem dX1_holds_12 : decode cX1_holds 12 = .ok (.iconst 2, 1) := by decide +kernel
theorem dX1_holds_13 : decode cX1_holds 13 = .ok (.invokevirtual 43, 3) := by decide +kernel
theorem dX1_holds_16 : decode cX1_holds 16 = .ok (.aload_n 1, 1) := by decide +kernel
theorem dX1_holds_17 : decode cX1_holds 17 = .ok (.getfield 97, 3) := by decide +kernel
theorem dX1_holds_20 : decode cX1_holds 20 = .ok (.getfield 59, 3) := by decide +kernel
theorem dX1_holds_23 : decode cX1_holds 23 = .ok (.invokestatic 100, 3) := by decide +kernel
theorem dX1_holds_26 : decode cX1_holds 26 = .ok (.istore 4, 2) := by decide +kernel
theorem dX1_holds_28 : decode cX1_holds 28 = .ok (.aload_n 1, 1) := by decide +kernel
theorem dX1_holds_29 : decode cX1_holds 29 = .ok (.getfield 37, 3) := by decide +kernel
theorem dX1_holds_32 : decode cX1_holds 32 = .ok (.iload_n 3, 1) := by decide +kernel
theorem dX1_holds_33 : decode cX1_holds 33 = .ok (.iconst 1, 1) := by decide +kernel
theorem dX1_holds_34 : decode cX1_holds 34 = .ok (.invokevirtual 43, 3) := by decide +kernel
theorem dX1_holds_37 : decode cX1_holds 37 = .ok (.istore 5, 2) := by decide +kernel
theorem dX1_holds_39 : decode cX1_holds 39 = .ok (.iload 5, 2) := by decide +kernel
theorem dX1_holds_41 : decode cX1_holds 41 = .ok (.iload 4, 2) := by decide +kernel
theorem dX1_holds_43 : decode cX1_holds 43 = .ok (.if_icmp .ge 109, 3) := by decide +kernel
theorem dX1_holds_46 : decode cX1_holds 46 = .ok (.aload_n 1, 1) := by decide +kernel
theorem dX1_holds_47 : decode cX1_holds 47 = .ok (.getfield 97, 3) := by decide +kernel
theorem dX1_holds_50 : decode cX1_holds 50 = .ok (.iload 5, 2) := by decide +kernel
theorem dX1_holds_52 : decode cX1_holds 52 = .ok (.iconst 0, 1) := by decide +kernel
theorem dX1_holds_53 : decode cX1_holds 53 = .ok (.invokevirtual 43, 3) := by decide +kernel
theorem dX1_holds_56 : decode cX1_holds 56 = .ok (.istore 6, 2) := by decide +kernel
theorem dX1_holds_58 : decode cX1_holds 58 = .ok (.iload 6, 2) := by decide +kernel
theorem dX1_holds_60 : decode cX1_holds 60 = .ok (.bipush 13, 2) := by decide +kernel
theorem dX1_holds_62 : decode cX1_holds 62 = .ok (.if_icmp .eq 17, 3) := by decide +kernel
theorem dX1_holds_65 : decode cX1_holds 65 = .ok (.iload 6, 2) := by decide +kernel
theorem dX1_holds_67 : decode cX1_holds 67 = .ok (.bipush 12, 2) := by decide +kernel
theorem dX1_holds_69 : decode cX1_holds 69 = .ok (.if_icmp .eq 10, 3) := by decide +kernel
theorem dX1_holds_72 : decode cX1_holds 72 = .ok (.iload 6, 2) := by decide +kernel
theorem dX1_holds_74 : decode cX1_holds 74 = .ok (.bipush 11, 2) := by decide +kernel
theorem dX1_holds_76 : decode cX1_holds 76 = .ok (.if_icmp .ne 12, 3) := by decide +kernel
theorem dX1_holds_79 : decode cX1_holds 79 = .ok (.aload_n 0, 1) := by decide +kernel
theorem dX1_holds_80 : decode cX1_holds 80 = .ok (.iload 6, 2) := by decide +kernel
theorem dX1_holds_82 : decode cX1_holds 82 = .ok (.invokevirtual 105, 3) := by decide +kernel
theorem dX1_holds_85 : decode cX1_holds 85 = .ok (.goto 61, 3) := by decide +kernel
theorem dX1_holds_88 : decode cX1_holds 88 = .ok (.aload_n 0, 1) := by decide +kernel
theorem dX1_holds_89 : decode cX1_holds 89 = .ok (.aload_n 2, 1) := by decide +kernel
theorem dX1_holds_90 : decode cX1_holds 90 = .ok (.aload_n 1, 1) := by decide +kernel
theorem dX1_holds_91 : decode cX1_holds 91 = .ok (.getfield 97, 3) := by decide +kernel
theorem dX1_holds_94 : decode cX1_holds 94 = .ok (.iload 5, 2) := by decide +kernel
theorem dX1_holds_96 : decode cX1_holds 96 = .ok (.iconst 1, 1) := by decide +kernel
theorem dX1_holds_97 : decode cX1_holds 97 = .ok (.invokevirtual 43, 3) := by decide +kernel
theorem dX1_holds_100 : decode cX1_holds 100 = .ok (.invokevirtual 108, 3) := by decide +kernel
theorem dX1_holds_103 : decode cX1_holds 103 = .ok (.istore 7, 2) := by decide +kernel
theorem dX1_holds_105 : decode cX1_holds 105 = .ok (.aload_n 0, 1) := by decide +kernel
theorem dX1_holds_106 : decode cX1_holds 106 = .ok (.aload_n 2, 1) := by decide +kernel
theorem dX1_holds_107 : decode cX1_holds 107 = .ok (.aload_n 1, 1) := by decide +kernel
theorem dX1_holds_108 : decode cX1_holds 108 = .ok (.getfield 97, 3) := by decide +kernel
theorem dX1_holds_111 : decode cX1_holds 111 = .ok (.iload 5, 2) := by decide +kernel
theorem dX1_holds_113 : decode cX1_holds 113 = .ok (.iconst 2, 1) := by decide +kernel
theorem dX1_holds_114 : decode cX1_holds 114 = .ok (.invokevirtual 43, 3) := by decide +kernel
theorem dX1_holds_117 : decode cX1_holds 117 = .ok (.invokevirtual 108, 3) := by decide +kernel
theorem dX1_holds_120 : decode cX1_holds 120 = .ok (.istore 8, 2) := by decide +kernel
theorem dX1_holds_122 : decode cX1_holds 122 = .ok (.aload_n 0, 1) := by decide +kernel
theorem dX1_holds_123 : decode cX1_holds 123 = .ok (.getfield 14, 3) := by decide +kernel
theorem dX1_holds_126 : decode cX1_holds 126 = .ok (.iload 6, 2) := by decide +kernel
theorem dX1_holds_128 : decode cX1_holds 128 = .ok (.iload 7, 2) := by decide +kernel
theorem dX1_holds_130 : decode cX1_holds 130 = .ok (.iload 8, 2) := by decide +kernel
theorem dX1_holds_132 : decode cX1_holds 132 = .ok (.invokestatic 112, 3) := by decide +kernel
theorem dX1_holds_135 : decode cX1_holds 135 = .ok (.ifCond .eq 7, 3) := by decide +kernel
theorem dX1_holds_138 : decode cX1_holds 138 = .ok (.iconst 1, 1) := by decide +kernel
theorem dX1_holds_139 : decode cX1_holds 139 = .ok (.goto 4, 3) := by decide +kernel
theorem dX1_holds_142 : decode cX1_holds 142 = .ok (.iconst 0, 1) := by decide +kernel
theorem dX1_holds_143 : decode cX1_holds 143 = .ok (.invokevirtual 116, 3) := by decide +kernel
theorem dX1_holds_146 : decode cX1_holds 146 = .ok (.iinc 5 1, 3) := by decide +kernel
theorem dX1_holds_149 : decode cX1_holds 149 = .ok (.goto (-110), 3) := by decide +kernel
theorem dX1_holds_152 : decode cX1_holds 152 = .ok (.aload_n 0, 1) := by decide +kernel
theorem dX1_holds_153 : decode cX1_holds 153 = .ok (.getfield 14, 3) := by decide +kernel
theorem dX1_holds_156 : decode cX1_holds 156 = .ok (.invokevirtual 119, 3) := by decide +kernel
theorem dX1_holds_159 : decode cX1_holds 159 = .ok (.iconst 1, 1) := by decide +kernel
theorem dX1_holds_160 : decode cX1_holds 160 = .ok (.if_icmp .ne 7, 3) := by decide +kernel
theorem dX1_holds_163 : decode cX1_holds 163 = .ok (.iconst 1, 1) := by decide +kernel
theorem dX1_holds_164 : decode cX1_holds 164 = .ok (.goto 4, 3) := by decide +kernel
theorem dX1_holds_167 : decode cX1_holds 167 = .ok (.iconst 0, 1) := by decide +kernel
theorem dX1_holds_168 : decode cX1_holds 168 = .ok (.ireturn, 1) := by decide +kernel
theorem dX1_join_0 : decode cX1_join 0 = .ok (.aload_n 0, 1) := by decide +kernel
theorem dX1_join_1 : decode cX1_join 1 = .ok (.getfield 14, 3) := by decide +kernel
theorem dX1_join_4 : decode cX1_join 4 = .ok (.invokevirtual 122, 3) := by decide +kernel
theorem dX1_join_7 : decode cX1_join 7 = .ok (.istore_n 2, 1) := by decide +kernel
theorem dX1_join_8 : decode cX1_join 8 = .ok (.iload_n 1, 1) := by decide +kernel
theorem dX1_join_9 : decode cX1_join 9 = .ok (.bipush 13, 2) := by decide +kernel
theorem dX1_join_11 : decode cX1_join 11 = .ok (.if_icmp .ne 14, 3) := by decide +kernel
theorem dX1_join_14 : decode cX1_join 14 = .ok (.aload_n 0, 1) := by decide +kernel
theorem dX1_join_15 : decode cX1_join 15 = .ok (.getfield 14, 3) := by decide +kernel
theorem dX1_join_18 : decode cX1_join 18 = .ok (.iconst 1, 1) := by decide +kernel
theorem dX1_join_19 : decode cX1_join 19 = .ok (.iload_n 2, 1) := by decide +kernel
theorem dX1_join_20 : decode cX1_join 20 = .ok (.isub, 1) := by decide +kernel
theorem dX1_join_21 : decode cX1_join 21 = .ok (.invokevirtual 116, 3) := by decide +kernel
theorem dX1_join_24 : decode cX1_join 24 = .ok (.return_, 1) := by decide +kernel
theorem dX1_join_25 : decode cX1_join 25 = .ok (.aload_n 0, 1) := by decide +kernel
theorem dX1_join_26 : decode cX1_join 26 = .ok (.getfield 14, 3) := by decide +kernel
theorem dX1_join_29 : decode cX1_join 29 = .ok (.invokevirtual 122, 3) := by decide +kernel
theorem dX1_join_32 : decode cX1_join 32 = .ok (.istore_n 3, 1) := by decide +kernel
theorem dX1_join_33 : decode cX1_join 33 = .ok (.aload_n 0, 1) := by decide +kernel
theorem dX1_join_34 : decode cX1_join 34 = .ok (.getfield 14, 3) := by decide +kernel
theorem dX1_join_37 : decode cX1_join 37 = .ok (.iload_n 1, 1) := by decide +kernel
theorem dX1_join_38 : decode cX1_join 38 = .ok (.bipush 12, 2) := by decide +kernel
theorem dX1_join_40 : decode cX1_join 40 = .ok (.if_icmp .ne 9, 3) := by decide +kernel
theorem dX1_join_43 : decode cX1_join 43 = .ok (.iload_n 3, 1) := by decide +kernel
theorem dX1_join_44 : decode cX1_join 44 = .ok (.iload_n 2, 1) := by decide +kernel
theorem dX1_join_45 : decode cX1_join 45 = .ok (.iand, 1) := by decide +kernel
theorem dX1_join_46 : decode cX1_join 46 = .ok (.goto 6, 3) := by decide +kernel
theorem dX1_join_49 : decode cX1_join 49 = .ok (.iload_n 3, 1) := by decide +kernel
theorem dX1_join_50 : decode cX1_join 50 = .ok (.iload_n 2, 1) := by decide +kernel
theorem dX1_join_51 : decode cX1_join 51 = .ok (.ior, 1) := by decide +kernel
theorem dX1_join_52 : decode cX1_join 52 = .ok (.invokevirtual 116, 3) := by decide +kernel
theorem dX1_join_55 : decode cX1_join 55 = .ok (.return_, 1) := by decide +kernel
theorem dX1_isSo_0 : decode cX1_isSo 0 = .ok (.iload_n 0, 1) := by decide +kernel
theorem dX1_isSo_1 : decode cX1_isSo 1 = .ok (.bipush 16, 2) := by decide +kernel
theorem dX1_isSo_3 : decode cX1_isSo 3 = .ok (.if_icmp .ne 14, 3) := by decide +kernel
theorem dX1_isSo_6 : decode cX1_isSo 6 = .ok (.iload_n 1, 1) := by decide +kernel
theorem dX1_isSo_7 : decode cX1_isSo 7 = .ok (.iload_n 2, 1) := by decide +kernel
theorem dX1_isSo_8 : decode cX1_isSo 8 = .ok (.if_icmp .ge 7, 3) := by decide +kernel
theorem dX1_isSo_11 : decode cX1_isSo 11 = .ok (.iconst 1, 1) := by decide +kernel
theorem dX1_isSo_12 : decode cX1_isSo 12 = .ok (.goto 4, 3) := by decide +kernel
theorem dX1_isSo_15 : decode cX1_isSo 15 = .ok (.iconst 0, 1) := by decide +kernel
theorem dX1_isSo_16 : decode cX1_isSo 16 = .ok (.ireturn, 1) := by decide +kernel
theorem dX1_isSo_17 : decode cX1_isSo 17 = .ok (.iload_n 0, 1) := by decide +kernel
theorem dX1_isSo_18 : decode cX1_isSo 18 = .ok (.bipush 18, 2) := by decide +kernel
theorem dX1_isSo_20 : decode cX1_isSo 20 = .ok (.if_icmp .ne 16, 3) := by decide +kernel
theorem dX1_isSo_23 : decode cX1_isSo 23 = .ok (.iload_n 1, 1) := by decide +kernel
theorem dX1_isSo_24 : decode cX1_isSo 24 = .ok (.iload_n 2, 1) := by decide +kernel
theorem dX1_isSo_25 : decode cX1_isSo 25 = .ok (.if_icmp .le 7, 3) := by decide +kernel
theorem dX1_isSo_28 : decode cX1_isSo 28 = .ok (.iconst 1, 1) := by decide +kernel
theorem dX1_isSo_29 : decode cX1_isSo 29 = .ok (.goto 17, 3) := by decide +kernel
theorem dX1_isSo_32 : decode cX1_isSo 32 = .ok (.iconst 0, 1) := by decide +kernel
theorem dX1_isSo_33 : decode cX1_isSo 33 = .ok (.goto 13, 3) := by decide +kernel
theorem dX1_isSo_36 : decode cX1_isSo 36 = .ok (.iload_n 1, 1) := by decide +kernel
theorem dX1_isSo_37 : decode cX1_isSo 37 = .ok (.iload_n 2, 1) := by decide +kernel
theorem dX1_isSo_38 : decode cX1_isSo 38 = .ok (.if_icmp .ne 7, 3) := by decide +kernel
theorem dX1_isSo_41 : decode cX1_isSo 41 = .ok (.iconst 1, 1) := by decide +kernel
theorem dX1_isSo_42 : decode cX1_isSo 42 = .ok (.goto 4, 3) := by decide +kernel
theorem dX1_isSo_45 : decode cX1_isSo 45 = .ok (.iconst 0, 1) := by decide +kernel
theorem dX1_isSo_46 : decode cX1_isSo 46 = .ok (.ireturn, 1) := by decide +kernel
theorem dX1_valueOf_0 : decode cX1_valueOf 0 = .ok (.iload_n 2, 1) := by decide +kernel
theorem dX1_valueOf_1 : decode cX1_valueOf 1 = .ok (.sipush 1000, 3) := by decide +kernel
theorem dX1_valueOf_4 : decode cX1_valueOf 4 = .ok (.irem, 1) := by decide +kernel
theorem dX1_valueOf_5 : decode cX1_valueOf 5 = .ok (.istore_n 3, 1) := by decide +kernel
theorem dX1_valueOf_6 : decode cX1_valueOf 6 = .ok (.iload_n 2, 1) := by decide +kernel
theorem dX1_valueOf_7 : decode cX1_valueOf 7 = .ok (.sipush 1000, 3) := by decide +kernel
theorem dX1_valueOf_10 : decode cX1_valueOf 10 = .ok (.idiv, 1) := by decide +kernel
theorem dX1_valueOf_11 : decode cX1_valueOf 11 = .ok (.tableswitch 83 1 8 #[45, 47, 52, 57, 62, 67, 72, 77], 45) := by decide +kernel
theorem dX1_valueOf_56 : decode cX1_valueOf 56 = .ok (.iload_n 3, 1) := by decide +kernel
theorem dX1_valueOf_57 : decode cX1_valueOf 57 = .ok (.ireturn, 1) := by decide +kernel
theorem dX1_valueOf_58 : decode cX1_valueOf 58 = .ok (.aload_n 0, 1) := by decide +kernel
theorem dX1_valueOf_59 : decode cX1_valueOf 59 = .ok (.getfield 20, 3) := by decide +kernel
theorem dX1_valueOf_62 : decode cX1_valueOf 62 = .ok (.ireturn, 1) := by decide +kernel
theorem dX1_valueOf_63 : decode cX1_valueOf 63 = .ok (.aload_n 0, 1) := by decide +kernel
theorem dX1_valueOf_64 : decode cX1_valueOf 64 = .ok (.getfield 24, 3) := by decide +kernel
theorem dX1_valueOf_67 : decode cX1_valueOf 67 = .ok (.ireturn, 1) := by decide +kernel
theorem dX1_valueOf_68 : decode cX1_valueOf 68 = .ok (.aload_n 1, 1) := by decide +kernel
theorem dX1_valueOf_69 : decode cX1_valueOf 69 = .ok (.invokevirtual 125, 3) := by decide +kernel
theorem dX1_valueOf_72 : decode cX1_valueOf 72 = .ok (.ireturn, 1) := by decide +kernel
theorem dX1_valueOf_73 : decode cX1_valueOf 73 = .ok (.aload_n 1, 1) := by decide +kernel
theorem dX1_valueOf_74 : decode cX1_valueOf 74 = .ok (.getfield 128, 3) := by decide +kernel
theorem dX1_valueOf_77 : decode cX1_valueOf 77 = .ok (.ireturn, 1) := by decide +kernel
theorem dX1_valueOf_78 : decode cX1_valueOf 78 = .ok (.aload_n 0, 1) := by decide +kernel
theorem dX1_valueOf_79 : decode cX1_valueOf 79 = .ok (.getfield 27, 3) := by decide +kernel
theorem dX1_valueOf_82 : decode cX1_valueOf 82 = .ok (.ireturn, 1) := by decide +kernel
theorem dX1_valueOf_83 : decode cX1_valueOf 83 = .ok (.aload_n 0, 1) := by decide +kernel
theorem dX1_valueOf_84 : decode cX1_valueOf 84 = .ok (.getfield 30, 3) := by decide +kernel
theorem dX1_valueOf_87 : decode cX1_valueOf 87 = .ok (.ireturn, 1) := by decide +kernel
theorem dX1_valueOf_88 : decode cX1_valueOf 88 = .ok (.aload_n 1, 1) := by decide +kernel
theorem dX1_valueOf_89 : decode cX1_valueOf 89 = .ok (.iload_n 3, 1) := by decide +kernel
theorem dX1_valueOf_90 : decode cX1_valueOf 90 = .ok (.invokevirtual 131, 3) := by decide +kernel
theorem dX1_valueOf_93 : decode cX1_valueOf 93 = .ok (.ireturn, 1) := by decide +kernel
theorem dX1_valueOf_94 : decode cX1_valueOf 94 = .ok (.iconst 0, 1) := by decide +kernel
theorem dX1_valueOf_95 : decode cX1_valueOf 95 = .ok (.ireturn, 1) := by decide +kernel
theorem dX2_init_0 : decode cX2_init 0 = .ok (.aload_n 0, 1) := by decide +kernel
theorem dX2_init_1 : decode cX2_init 1 = .ok (.invokespecial 3, 3) := by decide +kernel
theorem dX2_init_4 : decode cX2_init 4 = .ok (.aload_n 0, 1) := by decide +kernel
theorem dX2_init_5 : decode cX2_init 5 = .ok (.sipush 161, 3) := by decide +kernel
theorem dX2_init_8 : decode cX2_init 8 = .ok (.newarray .long, 2) := by decide +kernel
theorem dX2_init_10 : decode cX2_init 10 = .ok (.putfield 9, 3) := by decide +kernel
theorem dX2_init_13 : decode cX2_init 13 = .ok (.aload_n 0, 1) := by decide +kernel
theorem dX2_init_14 : decode cX2_init 14 = .ok (.iconst 0, 1) := by decide +kernel
theorem dX2_init_15 : decode cX2_init 15 = .ok (.putfield 15, 3) := by decide +kernel
theorem dX2_init_18 : decode cX2_init 18 = .ok (.aload_n 0, 1) := by decide +kernel
theorem dX2_init_19 : decode cX2_init 19 = .ok (.lconst 0, 1) := by decide +kernel
theorem dX2_init_20 : decode cX2_init 20 = .ok (.putfield 19, 3) := by decide +kernel
theorem dX2_init_23 : decode cX2_init 23 = .ok (.aload_n 0, 1) := by decide +kernel
theorem dX2_init_24 : decode cX2_init 24 = .ok (.bipush (-3), 2) := by decide +kernel
theorem dX2_init_26 : decode cX2_init 26 = .ok (.putfield 23, 3) := by decide +kernel
theorem dX2_init_29 : decode cX2_init 29 = .ok (.return_, 1) := by decide +kernel
theorem dX2_weigh_0 : decode cX2_weigh 0 = .ok (.aload_n 0, 1) := by decide +kernel
theorem dX2_weigh_1 : decode cX2_weigh 1 = .ok (.aload_n 1, 1) := by decide +kernel
theorem dX2_weigh_2 : decode cX2_weigh 2 = .ok (.iload_n 2, 1) := by decide +kernel
theorem dX2_weigh_3 : decode cX2_weigh 3 = .ok (.invokevirtual 26, 3) := by decide +kernel
theorem dX2_weigh_6 : decode cX2_weigh 6 = .ok (.putfield 15, 3) := by decide +kernel
theorem dX2_weigh_9 : decode cX2_weigh 9 = .ok (.aload_n 0, 1) := by decide +kernel
theorem dX2_weigh_10 : decode cX2_weigh 10 = .ok (.aload_n 1, 1) := by decide +kernel
theorem dX2_weigh_11 : decode cX2_weigh 11 = .ok (.iload_n 2, 1) := by decide +kernel
theorem dX2_weigh_12 : decode cX2_weigh 12 = .ok (.invokevirtual 31, 3) := by decide +kernel
theorem dX2_weigh_15 : decode cX2_weigh 15 = .ok (.iconst 0, 1) := by decide +kernel
theorem dX2_weigh_16 : decode cX2_weigh 16 = .ok (.istore_n 3, 1) := by decide +kernel
theorem dX2_weigh_17 : decode cX2_weigh 17 = .ok (.iload_n 3, 1) := by decide +kernel
theorem dX2_weigh_18 : decode cX2_weigh 18 = .ok (.aload_n 1, 1) := by decide +kernel
theorem dX2_weigh_19 : decode cX2_weigh 19 = .ok (.getfield 35, 3) := by decide +kernel
theorem dX2_weigh_22 : decode cX2_weigh 22 = .ok (.getfield 39, 3) := by decide +kernel
theorem dX2_weigh_25 : decode cX2_weigh 25 = .ok (.if_icmp .ge 24, 3) := by decide +kernel
theorem dX2_weigh_28 : decode cX2_weigh 28 = .ok (.aload_n 1, 1) := by decide +kernel
theorem dX2_weigh_29 : decode cX2_weigh 29 = .ok (.iload_n 3, 1) := by decide +kernel
theorem dX2_weigh_30 : decode cX2_weigh 30 = .ok (.iload_n 2, 1) := by decide +kernel
theorem dX2_weigh_31 : decode cX2_weigh 31 = .ok (.invokevirtual 44, 3) := by decide +kernel
theorem dX2_weigh_34 : decode cX2_weigh 34 = .ok (.ifCond .eq 9, 3) := by decide +kernel
theorem dX2_weigh_37 : decode cX2_weigh 37 = .ok (.aload_n 0, 1) := by decide +kernel
theorem dX2_weigh_38 : decode cX2_weigh 38 = .ok (.aload_n 1, 1) := by decide +kernel
theorem dX2_weigh_39 : decode cX2_weigh 39 = .ok (.iload_n 3, 1) := by decide +kernel
theorem dX2_weigh_40 : decode cX2_weigh 40 = .ok (.invokevirtual 48, 3) := by decide +kernel
theorem dX2_weigh_43 : decode cX2_weigh 43 = .ok (.iinc 3 1, 3) := by decide +kernel
theorem dX2_weigh_46 : decode cX2_weigh 46 = .ok (.goto (-29), 3) := by decide +kernel
theorem dX2_weigh_49 : decode cX2_weigh 49 = .ok (.aload_n 0, 1) := by decide +kernel
theorem dX2_weigh_50 : decode cX2_weigh 50 = .ok (.invokevirtual 51, 3) := by decide +kernel
theorem dX2_weigh_53 : decode cX2_weigh 53 = .ok (.return_, 1) := by decide +kernel
theorem dX2_begin_0 : decode cX2_begin 0 = .ok (.iconst 0, 1) := by decide +kernel
theorem dX2_begin_1 : decode cX2_begin 1 = .ok (.istore_n 3, 1) := by decide +kernel
theorem dX2_begin_2 : decode cX2_begin 2 = .ok (.iload_n 3, 1) := by decide +kernel
theorem dX2_begin_3 : decode cX2_begin 3 = .ok (.aload_n 0, 1) := by decide +kernel
theorem dX2_begin_4 : decode cX2_begin 4 = .ok (.getfield 9, 3) := by decide +kernel
theorem dX2_begin_7 : decode cX2_begin 7 = .ok (.arraylength, 1) := by decide +kernel
theorem dX2_begin_8 : decode cX2_begin 8 = .ok (.if_icmp .ge 66, 3) := by decide +kernel
theorem dX2_begin_11 : decode cX2_begin 11 = .ok (.iload_n 3, 1) := by decide +kernel
theorem dX2_begin_12 : decode cX2_begin 12 = .ok (.aload_n 0, 1) := by decide +kernel
theorem dX2_begin_13 : decode cX2_begin 13 = .ok (.getfield 15, 3) := by decide +kernel
theorem dX2_begin_16 : decode cX2_begin 16 = .ok (.if_icmp .gt 12, 3) := by decide +kernel
theorem dX2_begin_19 : decode cX2_begin 19 = .ok (.aload_n 1, 1) := by decide +kernel
theorem dX2_begin_20 : decode cX2_begin 20 = .ok (.iload_n 2, 1) := by decide +kernel
theorem dX2_begin_21 : decode cX2_begin 21 = .ok (.iload_n 3, 1) := by decide +kernel
theorem dX2_begin_22 : decode cX2_begin 22 = .ok (.invokevirtual 54, 3) := by decide +kernel
theorem dX2_begin_25 : decode cX2_begin 25 = .ok (.ifCond .eq 7, 3) := by decide +kernel
theorem dX2_begin_28 : decode cX2_begin 28 = .ok (.iconst 1, 1) := by decide +kernel
theorem dX2_begin_29 : decode cX2_begin 29 = .ok (.goto 4, 3) := by decide +kernel
theorem dX2_begin_32 : decode cX2_begin 32 = .ok (.iconst 0, 1) := by decide +kernel
theorem dX2_begin_33 : decode cX2_begin 33 = .ok (.istore 4, 2) := by decide +kernel
theorem dX2_begin_35 : decode cX2_begin 35 = .ok (.aload_n 0, 1) := by decide +kernel
theorem dX2_begin_36 : decode cX2_begin 36 = .ok (.getfield 9, 3) := by decide +kernel
theorem dX2_begin_39 : decode cX2_begin 39 = .ok (.iload_n 3, 1) := by decide +kernel
theorem dX2_begin_40 : decode cX2_begin 40 = .ok (.iload 4, 2) := by decide +kernel
theorem dX2_begin_42 : decode cX2_begin 42 = .ok (.ifCond .eq 7, 3) := by decide +kernel
theorem dX2_begin_45 : decode cX2_begin 45 = .ok (.lconst 0, 1) := by decide +kernel
theorem dX2_begin_46 : decode cX2_begin 46 = .ok (.goto 21, 3) := by decide +kernel
theorem dX2_begin_49 : decode cX2_begin 49 = .ok (.aload_n 1, 1) := by decide +kernel
theorem dX2_begin_50 : decode cX2_begin 50 = .ok (.getfield 57, 3) := by decide +kernel
theorem dX2_begin_53 : decode cX2_begin 53 = .ok (.aload_n 0, 1) := by decide +kernel
theorem dX2_begin_54 : decode cX2_begin 54 = .ok (.getfield 15, 3) := by decide +kernel
theorem dX2_begin_57 : decode cX2_begin 57 = .ok (.iload_n 3, 1) := by decide +kernel
theorem dX2_begin_58 : decode cX2_begin 58 = .ok (.isub, 1) := by decide +kernel
theorem dX2_begin_59 : decode cX2_begin 59 = .ok (.bipush 10, 2) := by decide +kernel
theorem dX2_begin_61 : decode cX2_begin 61 = .ok (.idiv, 1) := by decide +kernel
theorem dX2_begin_62 : decode cX2_begin 62 = .ok (.iconst 0, 1) := by decide +kernel
theorem dX2_begin_63 : decode cX2_begin 63 = .ok (.invokevirtual 60, 3) := by decide +kernel
theorem dX2_begin_66 : decode cX2_begin 66 = .ok (.i2l, 1) := by decide +kernel
theorem dX2_begin_67 : decode cX2_begin 67 = .ok (.lastore, 1) := by decide +kernel
theorem dX2_begin_68 : decode cX2_begin 68 = .ok (.iinc 3 1, 3) := by decide +kernel
theorem dX2_begin_71 : decode cX2_begin 71 = .ok (.goto (-69), 3) := by decide +kernel
theorem dX2_begin_74 : decode cX2_begin 74 = .ok (.return_, 1) := by decide +kernel
theorem dX2_take_0 : decode cX2_take 0 = .ok (.aload_n 1, 1) := by decide +kernel
theorem dX2_take_1 : decode cX2_take 1 = .ok (.getfield 35, 3) := by decide +kernel
theorem dX2_take_4 : decode cX2_take 4 = .ok (.iload_n 2, 1) := by decide +kernel
theorem dX2_take_5 : decode cX2_take 5 = .ok (.iconst 4, 1) := by decide +kernel
theorem dX2_take_6 : decode cX2_take 6 = .ok (.invokevirtual 60, 3) := by decide +kernel
theorem dX2_take_9 : decode cX2_take 9 = .ok (.istore_n 3, 1) := by decide +kernel
theorem dX2_take_10 : decode cX2_take 10 = .ok (.iconst 0, 1) := by decide +kernel
theorem dX2_take_11 : decode cX2_take 11 = .ok (.istore 4, 2) := by decide +kernel
theorem dX2_take_13 : decode cX2_take 13 = .ok (.iload 4, 2) := by decide +kernel
theorem dX2_take_15 : decode cX2_take 15 = .ok (.aload_n 0, 1) := by decide +kernel
theorem dX2_take_16 : decode cX2_take 16 = .ok (.getfield 9, 3) := by decide +kernel
theorem dX2_take_19 : decode cX2_take 19 = .ok (.arraylength, 1) := by decide +kernel
theorem dX2_take_20 : decode cX2_take 20 = .ok (.if_icmp .ge 54, 3) := by decide +kernel
theorem dX2_take_23 : decode cX2_take 23 = .ok (.aload_n 0, 1) := by decide +kernel
theorem dX2_take_24 : decode cX2_take 24 = .ok (.getfield 9, 3) := by decide +kernel
theorem dX2_take_27 : decode cX2_take 27 = .ok (.iload 4, 2) := by decide +kernel
theorem dX2_take_29 : decode cX2_take 29 = .ok (.laload, 1) := by decide +kernel
theorem dX2_take_30 : decode cX2_take 30 = .ok (.lconst 0, 1) := by decide +kernel
theorem dX2_take_31 : decode cX2_take 31 = .ok (.lcmp, 1) := by decide +kernel
theorem dX2_take_32 : decode cX2_take 32 = .ok (.ifCond .ne 6, 3) := by decide +kernel
theorem dX2_take_35 : decode cX2_take 35 = .ok (.goto 33, 3) := by decide +kernel
theorem dX2_take_38 : decode cX2_take 38 = .ok (.aload_n 0, 1) := by decide +kernel
theorem dX2_take_39 : decode cX2_take 39 = .ok (.getfield 9, 3) := by decide +kernel
theorem dX2_take_42 : decode cX2_take 42 = .ok (.iload 4, 2) := by decide +kernel
theorem dX2_take_44 : decode cX2_take 44 = .ok (.dup2, 1) := by decide +kernel
theorem dX2_take_45 : decode cX2_take 45 = .ok (.laload, 1) := by decide +kernel
theorem dX2_take_46 : decode cX2_take 46 = .ok (.aload_n 1, 1) := by decide +kernel
theorem dX2_take_47 : decode cX2_take 47 = .ok (.iload_n 2, 1) := by decide +kernel
theorem dX2_take_48 : decode cX2_take 48 = .ok (.iload 4, 2) := by decide +kernel
theorem dX2_take_50 : decode cX2_take 50 = .ok (.invokevirtual 64, 3) := by decide +kernel
theorem dX2_take_53 : decode cX2_take 53 = .ok (.ifCond .eq 11, 3) := by decide +kernel
theorem dX2_take_56 : decode cX2_take 56 = .ok (.bipush 100, 2) := by decide +kernel
theorem dX2_take_58 : decode cX2_take 58 = .ok (.iload_n 3, 1) := by decide +kernel
theorem dX2_take_59 : decode cX2_take 59 = .ok (.isub, 1) := by decide +kernel
theorem dX2_take_60 : decode cX2_take 60 = .ok (.i2l, 1) := by decide +kernel
theorem dX2_take_61 : decode cX2_take 61 = .ok (.goto 5, 3) := by decide +kernel
theorem dX2_take_64 : decode cX2_take 64 = .ok (.iload_n 3, 1) := by decide +kernel
theorem dX2_take_65 : decode cX2_take 65 = .ok (.i2l, 1) := by decide +kernel
theorem dX2_take_66 : decode cX2_take 66 = .ok (.lmul, 1) := by decide +kernel
theorem dX2_take_67 : decode cX2_take 67 = .ok (.lastore, 1) := by decide +kernel
theorem dX2_take_68 : decode cX2_take 68 = .ok (.iinc 4 1, 3) := by decide +kernel
theorem dX2_take_71 : decode cX2_take 71 = .ok (.goto (-58), 3) := by decide +kernel
theorem dX2_take_74 : decode cX2_take 74 = .ok (.return_, 1) := by decide +kernel
theorem dX2_sum_0 : decode cX2_sum 0 = .ok (.aload_n 0, 1) := by decide +kernel
theorem dX2_sum_1 : decode cX2_sum 1 = .ok (.lconst 0, 1) := by decide +kernel
theorem dX2_sum_2 : decode cX2_sum 2 = .ok (.putfield 19, 3) := by decide +kernel
theorem dX2_sum_5 : decode cX2_sum 5 = .ok (.aload_n 0, 1) := by decide +kernel
theorem dX2_sum_6 : decode cX2_sum 6 = .ok (.bipush (-3), 2) := by decide +kernel
theorem dX2_sum_8 : decode cX2_sum 8 = .ok (.putfield 23, 3) := by decide +kernel
theorem dX2_sum_11 : decode cX2_sum 11 = .ok (.lconst 0, 1) := by decide +kernel
theorem dX2_sum_12 : decode cX2_sum 12 = .ok (.lstore_n 1, 1) := by decide +kernel
theorem dX2_sum_13 : decode cX2_sum 13 = .ok (.iconst 0, 1) := by decide +kernel
theorem dX2_sum_14 : decode cX2_sum 14 = .ok (.istore_n 3, 1) := by decide +kernel
theorem dX2_sum_15 : decode cX2_sum 15 = .ok (.iload_n 3, 1) := by decide +kernel
theorem dX2_sum_16 : decode cX2_sum 16 = .ok (.aload_n 0, 1) := by decide +kernel
theorem dX2_sum_17 : decode cX2_sum 17 = .ok (.getfield 9, 3) := by decide +kernel
theorem dX2_sum_20 : decode cX2_sum 20 = .ok (.arraylength, 1) := by decide +kernel
theorem dX2_sum_21 : decode cX2_sum 21 = .ok (.if_icmp .ge 47, 3) := by decide +kernel
theorem dX2_sum_24 : decode cX2_sum 24 = .ok (.aload_n 0, 1) := by decide +kernel
theorem dX2_sum_25 : decode cX2_sum 25 = .ok (.dup, 1) := by decide +kernel
theorem dX2_sum_26 : decode cX2_sum 26 = .ok (.getfield 19, 3) := by decide +kernel
theorem dX2_sum_29 : decode cX2_sum 29 = .ok (.aload_n 0, 1) := by decide +kernel
theorem dX2_sum_30 : decode cX2_sum 30 = .ok (.getfield 9, 3) := by decide +kernel
theorem dX2_sum_33 : decode cX2_sum 33 = .ok (.iload_n 3, 1) := by decide +kernel
theorem dX2_sum_34 : decode cX2_sum 34 = .ok (.laload, 1) := by decide +kernel
theorem dX2_sum_35 : decode cX2_sum 35 = .ok (.ladd, 1) := by decide +kernel
theorem dX2_sum_36 : decode cX2_sum 36 = .ok (.putfield 19, 3) := by decide +kernel
theorem dX2_sum_39 : decode cX2_sum 39 = .ok (.aload_n 0, 1) := by decide +kernel
theorem dX2_sum_40 : decode cX2_sum 40 = .ok (.getfield 9, 3) := by decide +kernel
theorem dX2_sum_43 : decode cX2_sum 43 = .ok (.iload_n 3, 1) := by decide +kernel
theorem dX2_sum_44 : decode cX2_sum 44 = .ok (.laload, 1) := by decide +kernel
theorem dX2_sum_45 : decode cX2_sum 45 = .ok (.lload_n 1, 1) := by decide +kernel
theorem dX2_sum_46 : decode cX2_sum 46 = .ok (.lcmp, 1) := by decide +kernel
theorem dX2_sum_47 : decode cX2_sum 47 = .ok (.ifCond .le 15, 3) := by decide +kernel
theorem dX2_sum_50 : decode cX2_sum 50 = .ok (.aload_n 0, 1) := by decide +kernel
theorem dX2_sum_51 : decode cX2_sum 51 = .ok (.getfield 9, 3) := by decide +kernel
theorem dX2_sum_54 : decode cX2_sum 54 = .ok (.iload_n 3, 1) := by decide +kernel
theorem dX2_sum_55 : decode cX2_sum 55 = .ok (.laload, 1) := by decide +kernel
theorem dX2_sum_56 : decode cX2_sum 56 = .ok (.lstore_n 1, 1) := by decide +kernel
theorem dX2_sum_57 : decode cX2_sum 57 = .ok (.aload_n 0, 1) := by decide +kernel
theorem dX2_sum_58 : decode cX2_sum 58 = .ok (.iload_n 3, 1) := by decide +kernel
theorem dX2_sum_59 : decode cX2_sum 59 = .ok (.putfield 23, 3) := by decide +kernel
theorem dX2_sum_62 : decode cX2_sum 62 = .ok (.iinc 3 1, 3) := by decide +kernel
theorem dX2_sum_65 : decode cX2_sum 65 = .ok (.goto (-50), 3) := by decide +kernel
theorem dX2_sum_68 : decode cX2_sum 68 = .ok (.return_, 1) := by decide +kernel
theorem dX2_of_0 : decode cX2_of 0 = .ok (.iload_n 1, 1) := by decide +kernel
theorem dX2_of_1 : decode cX2_of 1 = .ok (.ifCond .lt 21, 3) := by decide +kernel
theorem dX2_of_4 : decode cX2_of 4 = .ok (.iload_n 1, 1) := by decide +kernel
theorem dX2_of_5 : decode cX2_of 5 = .ok (.aload_n 0, 1) := by decide +kernel
theorem dX2_of_6 : decode cX2_of 6 = .ok (.getfield 9, 3) := by decide +kernel
theorem dX2_of_9 : decode cX2_of 9 = .ok (.arraylength, 1) := by decide +kernel
theorem dX2_of_10 : decode cX2_of 10 = .ok (.if_icmp .ge 12, 3) := by decide +kernel
theorem dX2_of_13 : decode cX2_of 13 = .ok (.aload_n 0, 1) := by decide +kernel
theorem dX2_of_14 : decode cX2_of 14 = .ok (.getfield 9, 3) := by decide +kernel
theorem dX2_of_17 : decode cX2_of 17 = .ok (.iload_n 1, 1) := by decide +kernel
theorem dX2_of_18 : decode cX2_of 18 = .ok (.laload, 1) := by decide +kernel
theorem dX2_of_19 : decode cX2_of 19 = .ok (.goto 4, 3) := by decide +kernel
theorem dX2_of_22 : decode cX2_of 22 = .ok (.lconst 0, 1) := by decide +kernel
theorem dX2_of_23 : decode cX2_of 23 = .ok (.lreturn, 1) := by decide +kernel
theorem dX2_upTo_0 : decode cX2_upTo 0 = .ok (.lconst 0, 1) := by decide +kernel
theorem dX2_upTo_1 : decode cX2_upTo 1 = .ok (.lstore_n 2, 1) := by decide +kernel
theorem dX2_upTo_2 : decode cX2_upTo 2 = .ok (.iconst 0, 1) := by decide +kernel
theorem dX2_upTo_3 : decode cX2_upTo 3 = .ok (.istore 4, 2) := by decide +kernel
theorem dX2_upTo_5 : decode cX2_upTo 5 = .ok (.iload 4, 2) := by decide +kernel
theorem dX2_upTo_7 : decode cX2_upTo 7 = .ok (.iload_n 1, 1) := by decide +kernel
theorem dX2_upTo_8 : decode cX2_upTo 8 = .ok (.if_icmp .gt 29, 3) := by decide +kernel
theorem dX2_upTo_11 : decode cX2_upTo 11 = .ok (.iload 4, 2) := by decide +kernel
theorem dX2_upTo_13 : decode cX2_upTo 13 = .ok (.aload_n 0, 1) := by decide +kernel
theorem dX2_upTo_14 : decode cX2_upTo 14 = .ok (.getfield 9, 3) := by decide +kernel
theorem dX2_upTo_17 : decode cX2_upTo 17 = .ok (.arraylength, 1) := by decide +kernel
theorem dX2_upTo_18 : decode cX2_upTo 18 = .ok (.if_icmp .ge 19, 3) := by decide +kernel
theorem dX2_upTo_21 : decode cX2_upTo 21 = .ok (.lload_n 2, 1) := by decide +kernel
theorem dX2_upTo_22 : decode cX2_upTo 22 = .ok (.aload_n 0, 1) := by decide +kernel
theorem dX2_upTo_23 : decode cX2_upTo 23 = .ok (.getfield 9, 3) := by decide +kernel
theorem dX2_upTo_26 : decode cX2_upTo 26 = .ok (.iload 4, 2) := by decide +kernel
theorem dX2_upTo_28 : decode cX2_upTo 28 = .ok (.laload, 1) := by decide +kernel
theorem dX2_upTo_29 : decode cX2_upTo 29 = .ok (.ladd, 1) := by decide +kernel
theorem dX2_upTo_30 : decode cX2_upTo 30 = .ok (.lstore_n 2, 1) := by decide +kernel
theorem dX2_upTo_31 : decode cX2_upTo 31 = .ok (.iinc 4 1, 3) := by decide +kernel
theorem dX2_upTo_34 : decode cX2_upTo 34 = .ok (.goto (-29), 3) := by decide +kernel
theorem dX2_upTo_37 : decode cX2_upTo 37 = .ok (.lload_n 2, 1) := by decide +kernel
theorem dX2_upTo_38 : decode cX2_upTo 38 = .ok (.lreturn, 1) := by decide +kernel
theorem dX2_ofAge_0 : decode cX2_ofAge 0 = .ok (.aload_n 0, 1) := by decide +kernel
theorem dX2_ofAge_1 : decode cX2_ofAge 1 = .ok (.aload_n 0, 1) := by decide +kernel
theorem dX2_ofAge_2 : decode cX2_ofAge 2 = .ok (.getfield 15, 3) := by decide +kernel
theorem dX2_ofAge_5 : decode cX2_ofAge 5 = .ok (.iload_n 1, 1) := by decide +kernel
theorem dX2_ofAge_6 : decode cX2_ofAge 6 = .ok (.isub, 1) := by decide +kernel
theorem dX2_ofAge_7 : decode cX2_ofAge 7 = .ok (.invokevirtual 67, 3) := by decide +kernel
theorem dX2_ofAge_10 : decode cX2_ofAge 10 = .ok (.lreturn, 1) := by decide +kernel
theorem dX2_bestAge_0 : decode cX2_bestAge 0 = .ok (.aload_n 0, 1) := by decide +kernel
theorem dX2_bestAge_1 : decode cX2_bestAge 1 = .ok (.getfield 23, 3) := by decide +kernel
theorem dX2_bestAge_4 : decode cX2_bestAge 4 = .ok (.bipush (-3), 2) := by decide +kernel
theorem dX2_bestAge_6 : decode cX2_bestAge 6 = .ok (.if_icmp .ne 7, 3) := by decide +kernel
theorem dX2_bestAge_9 : decode cX2_bestAge 9 = .ok (.iconst 0, 1) := by decide +kernel
theorem dX2_bestAge_10 : decode cX2_bestAge 10 = .ok (.goto 12, 3) := by decide +kernel
theorem dX2_bestAge_13 : decode cX2_bestAge 13 = .ok (.aload_n 0, 1) := by decide +kernel
theorem dX2_bestAge_14 : decode cX2_bestAge 14 = .ok (.getfield 15, 3) := by decide +kernel
theorem dX2_bestAge_17 : decode cX2_bestAge 17 = .ok (.aload_n 0, 1) := by decide +kernel
theorem dX2_bestAge_18 : decode cX2_bestAge 18 = .ok (.getfield 23, 3) := by decide +kernel
theorem dX2_bestAge_21 : decode cX2_bestAge 21 = .ok (.isub, 1) := by decide +kernel
theorem dX2_bestAge_22 : decode cX2_bestAge 22 = .ok (.ireturn, 1) := by decide +kernel
theorem dX2_hundredthsOf_0 : decode cX2_hundredthsOf 0 = .ok (.aload_n 0, 1) := by decide +kernel
theorem dX2_hundredthsOf_1 : decode cX2_hundredthsOf 1 = .ok (.getfield 19, 3) := by decide +kernel
theorem dX2_hundredthsOf_4 : decode cX2_hundredthsOf 4 = .ok (.lconst 0, 1) := by decide +kernel
theorem dX2_hundredthsOf_5 : decode cX2_hundredthsOf 5 = .ok (.lcmp, 1) := by decide +kernel
theorem dX2_hundredthsOf_6 : decode cX2_hundredthsOf 6 = .ok (.ifCond .gt 7, 3) := by decide +kernel
theorem dX2_hundredthsOf_9 : decode cX2_hundredthsOf 9 = .ok (.iconst 0, 1) := by decide +kernel
theorem dX2_hundredthsOf_10 : decode cX2_hundredthsOf 10 = .ok (.goto 23, 3) := by decide +kernel
theorem dX2_hundredthsOf_13 : decode cX2_hundredthsOf 13 = .ok (.aload_n 0, 1) := by decide +kernel
theorem dX2_hundredthsOf_14 : decode cX2_hundredthsOf 14 = .ok (.aload_n 0, 1) := by decide +kernel
theorem dX2_hundredthsOf_15 : decode cX2_hundredthsOf 15 = .ok (.getfield 15, 3) := by decide +kernel
theorem dX2_hundredthsOf_18 : decode cX2_hundredthsOf 18 = .ok (.iload_n 1, 1) := by decide +kernel
theorem dX2_hundredthsOf_19 : decode cX2_hundredthsOf 19 = .ok (.isub, 1) := by decide +kernel
theorem dX2_hundredthsOf_20 : decode cX2_hundredthsOf 20 = .ok (.invokevirtual 67, 3) := by decide +kernel
theorem dX2_hundredthsOf_23 : decode cX2_hundredthsOf 23 = .ok (.ldc2_w 71, 3) := by decide +kernel
theorem dX2_hundredthsOf_26 : decode cX2_hundredthsOf 26 = .ok (.lmul, 1) := by decide +kernel
theorem dX2_hundredthsOf_27 : decode cX2_hundredthsOf 27 = .ok (.aload_n 0, 1) := by decide +kernel
theorem dX2_hundredthsOf_28 : decode cX2_hundredthsOf 28 = .ok (.getfield 19, 3) := by decide +kernel
theorem dX2_hundredthsOf_31 : decode cX2_hundredthsOf 31 = .ok (.ldiv, 1) := by decide +kernel
theorem dX2_hundredthsOf_32 : decode cX2_hundredthsOf 32 = .ok (.l2i, 1) := by decide +kernel
theorem dX2_hundredthsOf_33 : decode cX2_hundredthsOf 33 = .ok (.ireturn, 1) := by decide +kernel
theorem dX3_init_0 : decode cX3_init 0 = .ok (.aload_n 0, 1) := by decide +kernel
theorem dX3_init_1 : decode cX3_init 1 = .ok (.invokespecial 1, 3) := by decide +kernel
theorem dX3_init_4 : decode cX3_init 4 = .ok (.aload_n 0, 1) := by decide +kernel
theorem dX3_init_5 : decode cX3_init 5 = .ok (.iconst 0, 1) := by decide +kernel
theorem dX3_init_6 : decode cX3_init 6 = .ok (.putfield 7, 3) := by decide +kernel
theorem dX3_init_9 : decode cX3_init 9 = .ok (.aload_n 0, 1) := by decide +kernel
theorem dX3_init_10 : decode cX3_init 10 = .ok (.iconst 0, 1) := by decide +kernel
theorem dX3_init_11 : decode cX3_init 11 = .ok (.iload_n 1, 1) := by decide +kernel
theorem dX3_init_12 : decode cX3_init 12 = .ok (.invokestatic 13, 3) := by decide +kernel
theorem dX3_init_15 : decode cX3_init 15 = .ok (.newarray .int, 2) := by decide +kernel
theorem dX3_init_17 : decode cX3_init 17 = .ok (.putfield 19, 3) := by decide +kernel
theorem dX3_init_20 : decode cX3_init 20 = .ok (.return_, 1) := by decide +kernel
theorem dX3_clear_0 : decode cX3_clear 0 = .ok (.aload_n 0, 1) := by decide +kernel
theorem dX3_clear_1 : decode cX3_clear 1 = .ok (.iconst 0, 1) := by decide +kernel
theorem dX3_clear_2 : decode cX3_clear 2 = .ok (.putfield 7, 3) := by decide +kernel
theorem dX3_clear_5 : decode cX3_clear 5 = .ok (.return_, 1) := by decide +kernel
theorem dX3_push_0 : decode cX3_push 0 = .ok (.aload_n 0, 1) := by decide +kernel
theorem dX3_push_1 : decode cX3_push 1 = .ok (.getfield 7, 3) := by decide +kernel
theorem dX3_push_4 : decode cX3_push 4 = .ok (.ifCond .lt 15, 3) := by decide +kernel
theorem dX3_push_7 : decode cX3_push 7 = .ok (.aload_n 0, 1) := by decide +kernel
theorem dX3_push_8 : decode cX3_push 8 = .ok (.getfield 7, 3) := by decide +kernel
theorem dX3_push_11 : decode cX3_push 11 = .ok (.aload_n 0, 1) := by decide +kernel
theorem dX3_push_12 : decode cX3_push 12 = .ok (.getfield 19, 3) := by decide +kernel
theorem dX3_push_15 : decode cX3_push 15 = .ok (.arraylength, 1) := by decide +kernel
theorem dX3_push_16 : decode cX3_push 16 = .ok (.if_icmp .lt 4, 3) := by decide +kernel
theorem dX3_push_19 : decode cX3_push 19 = .ok (.return_, 1) := by decide +kernel
theorem dX3_push_20 : decode cX3_push 20 = .ok (.aload_n 0, 1) := by decide +kernel
theorem dX3_push_21 : decode cX3_push 21 = .ok (.getfield 19, 3) := by decide +kernel
theorem dX3_push_24 : decode cX3_push 24 = .ok (.aload_n 0, 1) := by decide +kernel
theorem dX3_push_25 : decode cX3_push 25 = .ok (.getfield 7, 3) := by decide +kernel
theorem dX3_push_28 : decode cX3_push 28 = .ok (.iload_n 1, 1) := by decide +kernel
theorem dX3_push_29 : decode cX3_push 29 = .ok (.iastore, 1) := by decide +kernel
theorem dX3_push_30 : decode cX3_push 30 = .ok (.aload_n 0, 1) := by decide +kernel
theorem dX3_push_31 : decode cX3_push 31 = .ok (.dup, 1) := by decide +kernel
theorem dX3_push_32 : decode cX3_push 32 = .ok (.getfield 7, 3) := by decide +kernel
theorem dX3_push_35 : decode cX3_push 35 = .ok (.iconst 1, 1) := by decide +kernel
theorem dX3_push_36 : decode cX3_push 36 = .ok (.iadd, 1) := by decide +kernel
theorem dX3_push_37 : decode cX3_push 37 = .ok (.putfield 7, 3) := by decide +kernel
theorem dX3_push_40 : decode cX3_push 40 = .ok (.return_, 1) := by decide +kernel
theorem dX3_has_0 : decode cX3_has 0 = .ok (.iload_n 1, 1) := by decide +kernel
theorem dX3_has_1 : decode cX3_has 1 = .ok (.ifCond .lt 15, 3) := by decide +kernel
theorem dX3_has_4 : decode cX3_has 4 = .ok (.iload_n 1, 1) := by decide +kernel
theorem dX3_has_5 : decode cX3_has 5 = .ok (.aload_n 0, 1) := by decide +kernel
theorem dX3_has_6 : decode cX3_has 6 = .ok (.getfield 7, 3) := by decide +kernel
theorem dX3_has_9 : decode cX3_has 9 = .ok (.if_icmp .ge 7, 3) := by decide +kernel
theorem dX3_has_12 : decode cX3_has 12 = .ok (.iconst 1, 1) := by decide +kernel
theorem dX3_has_13 : decode cX3_has 13 = .ok (.goto 4, 3) := by decide +kernel
theorem dX3_has_16 : decode cX3_has 16 = .ok (.iconst 0, 1) := by decide +kernel
theorem dX3_has_17 : decode cX3_has 17 = .ok (.ireturn, 1) := by decide +kernel
theorem dX3_get_0 : decode cX3_get 0 = .ok (.iload_n 1, 1) := by decide +kernel
theorem dX3_get_1 : decode cX3_get 1 = .ok (.ifCond .lt 29, 3) := by decide +kernel
theorem dX3_get_4 : decode cX3_get 4 = .ok (.iload_n 1, 1) := by decide +kernel
theorem dX3_get_5 : decode cX3_get 5 = .ok (.aload_n 0, 1) := by decide +kernel
theorem dX3_get_6 : decode cX3_get 6 = .ok (.getfield 7, 3) := by decide +kernel
theorem dX3_get_9 : decode cX3_get 9 = .ok (.if_icmp .ge 21, 3) := by decide +kernel
theorem dX3_get_12 : decode cX3_get 12 = .ok (.iload_n 1, 1) := by decide +kernel
theorem dX3_get_13 : decode cX3_get 13 = .ok (.aload_n 0, 1) := by decide +kernel
theorem dX3_get_14 : decode cX3_get 14 = .ok (.getfield 19, 3) := by decide +kernel
theorem dX3_get_17 : decode cX3_get 17 = .ok (.arraylength, 1) := by decide +kernel
theorem dX3_get_18 : decode cX3_get 18 = .ok (.if_icmp .ge 12, 3) := by decide +kernel
theorem dX3_get_21 : decode cX3_get 21 = .ok (.aload_n 0, 1) := by decide +kernel
theorem dX3_get_22 : decode cX3_get 22 = .ok (.getfield 19, 3) := by decide +kernel
theorem dX3_get_25 : decode cX3_get 25 = .ok (.iload_n 1, 1) := by decide +kernel
theorem dX3_get_26 : decode cX3_get 26 = .ok (.iaload, 1) := by decide +kernel
theorem dX3_get_27 : decode cX3_get 27 = .ok (.goto 4, 3) := by decide +kernel
theorem dX3_get_30 : decode cX3_get 30 = .ok (.iconst 0, 1) := by decide +kernel
theorem dX3_get_31 : decode cX3_get 31 = .ok (.ireturn, 1) := by decide +kernel
theorem dX3_top_0 : decode cX3_top 0 = .ok (.aload_n 0, 1) := by decide +kernel
theorem dX3_top_1 : decode cX3_top 1 = .ok (.getfield 7, 3) := by decide +kernel
theorem dX3_top_4 : decode cX3_top 4 = .ok (.ifCond .le 29, 3) := by decide +kernel
theorem dX3_top_7 : decode cX3_top 7 = .ok (.aload_n 0, 1) := by decide +kernel
theorem dX3_top_8 : decode cX3_top 8 = .ok (.getfield 7, 3) := by decide +kernel
theorem dX3_top_11 : decode cX3_top 11 = .ok (.aload_n 0, 1) := by decide +kernel
theorem dX3_top_12 : decode cX3_top 12 = .ok (.getfield 19, 3) := by decide +kernel
theorem dX3_top_15 : decode cX3_top 15 = .ok (.arraylength, 1) := by decide +kernel
theorem dX3_top_16 : decode cX3_top 16 = .ok (.if_icmp .gt 17, 3) := by decide +kernel
theorem dX3_top_19 : decode cX3_top 19 = .ok (.aload_n 0, 1) := by decide +kernel
theorem dX3_top_20 : decode cX3_top 20 = .ok (.getfield 19, 3) := by decide +kernel
theorem dX3_top_23 : decode cX3_top 23 = .ok (.aload_n 0, 1) := by decide +kernel
theorem dX3_top_24 : decode cX3_top 24 = .ok (.getfield 7, 3) := by decide +kernel
theorem dX3_top_27 : decode cX3_top 27 = .ok (.iconst 1, 1) := by decide +kernel
theorem dX3_top_28 : decode cX3_top 28 = .ok (.isub, 1) := by decide +kernel
theorem dX3_top_29 : decode cX3_top 29 = .ok (.iaload, 1) := by decide +kernel
theorem dX3_top_30 : decode cX3_top 30 = .ok (.goto 4, 3) := by decide +kernel
theorem dX3_top_33 : decode cX3_top 33 = .ok (.iconst 0, 1) := by decide +kernel
theorem dX3_top_34 : decode cX3_top 34 = .ok (.ireturn, 1) := by decide +kernel
theorem dX3_pop_0 : decode cX3_pop 0 = .ok (.aload_n 0, 1) := by decide +kernel
theorem dX3_pop_1 : decode cX3_pop 1 = .ok (.getfield 7, 3) := by decide +kernel
theorem dX3_pop_4 : decode cX3_pop 4 = .ok (.ifCond .le 15, 3) := by decide +kernel
theorem dX3_pop_7 : decode cX3_pop 7 = .ok (.aload_n 0, 1) := by decide +kernel
theorem dX3_pop_8 : decode cX3_pop 8 = .ok (.getfield 7, 3) := by decide +kernel
theorem dX3_pop_11 : decode cX3_pop 11 = .ok (.aload_n 0, 1) := by decide +kernel
theorem dX3_pop_12 : decode cX3_pop 12 = .ok (.getfield 19, 3) := by decide +kernel
theorem dX3_pop_15 : decode cX3_pop 15 = .ok (.arraylength, 1) := by decide +kernel
theorem dX3_pop_16 : decode cX3_pop 16 = .ok (.if_icmp .le 5, 3) := by decide +kernel
theorem dX3_pop_19 : decode cX3_pop 19 = .ok (.iconst 0, 1) := by decide +kernel
theorem dX3_pop_20 : decode cX3_pop 20 = .ok (.ireturn, 1) := by decide +kernel
theorem dX3_pop_21 : decode cX3_pop 21 = .ok (.aload_n 0, 1) := by decide +kernel
theorem dX3_pop_22 : decode cX3_pop 22 = .ok (.dup, 1) := by decide +kernel
theorem dX3_pop_23 : decode cX3_pop 23 = .ok (.getfield 7, 3) := by decide +kernel
theorem dX3_pop_26 : decode cX3_pop 26 = .ok (.iconst 1, 1) := by decide +kernel
theorem dX3_pop_27 : decode cX3_pop 27 = .ok (.isub, 1) := by decide +kernel
theorem dX3_pop_28 : decode cX3_pop 28 = .ok (.putfield 7, 3) := by decide +kernel
theorem dX3_pop_31 : decode cX3_pop 31 = .ok (.aload_n 0, 1) := by decide +kernel
theorem dX3_pop_32 : decode cX3_pop 32 = .ok (.getfield 19, 3) := by decide +kernel
theorem dX3_pop_35 : decode cX3_pop 35 = .ok (.aload_n 0, 1) := by decide +kernel
theorem dX3_pop_36 : decode cX3_pop 36 = .ok (.getfield 7, 3) := by decide +kernel
theorem dX3_pop_39 : decode cX3_pop 39 = .ok (.iaload, 1) := by decide +kernel
theorem dX3_pop_40 : decode cX3_pop 40 = .ok (.ireturn, 1) := by decide +kernel
theorem dX4_init_0 : decode cX4_init 0 = .ok (.aload_n 0, 1) := by decide +kernel
theorem dX4_init_1 : decode cX4_init 1 = .ok (.invokespecial 3, 3) := by decide +kernel
theorem dX4_init_4 : decode cX4_init 4 = .ok (.aload_n 0, 1) := by decide +kernel
theorem dX4_init_5 : decode cX4_init 5 = .ok (.bipush 40, 2) := by decide +kernel
theorem dX4_init_7 : decode cX4_init 7 = .ok (.newarray .int, 2) := by decide +kernel
theorem dX4_init_9 : decode cX4_init 9 = .ok (.putfield 9, 3) := by decide +kernel
theorem dX4_init_12 : decode cX4_init 12 = .ok (.aload_n 0, 1) := by decide +kernel
theorem dX4_init_13 : decode cX4_init 13 = .ok (.iconst (-1), 1) := by decide +kernel
theorem dX4_init_14 : decode cX4_init 14 = .ok (.putfield 15, 3) := by decide +kernel
theorem dX4_init_17 : decode cX4_init 17 = .ok (.aload_n 0, 1) := by decide +kernel
theorem dX4_init_18 : decode cX4_init 18 = .ok (.iconst 0, 1) := by decide +kernel
theorem dX4_init_19 : decode cX4_init 19 = .ok (.putfield 19, 3) := by decide +kernel
theorem dX4_init_22 : decode cX4_init 22 = .ok (.return_, 1) := by decide +kernel
theorem dX4_become_0 : decode cX4_become 0 = .ok (.aload_n 0, 1) := by decide +kernel
theorem dX4_become_1 : decode cX4_become 1 = .ok (.iload_n 1, 1) := by decide +kernel
theorem dX4_become_2 : decode cX4_become 2 = .ok (.putfield 15, 3) := by decide +kernel
theorem dX4_become_5 : decode cX4_become 5 = .ok (.aload_n 0, 1) := by decide +kernel
theorem dX4_become_6 : decode cX4_become 6 = .ok (.iconst 0, 1) := by decide +kernel
theorem dX4_become_7 : decode cX4_become 7 = .ok (.iload_n 2, 1) := by decide +kernel
theorem dX4_become_8 : decode cX4_become 8 = .ok (.aload_n 0, 1) := by decide +kernel
theorem dX4_become_9 : decode cX4_become 9 = .ok (.getfield 9, 3) := by decide +kernel
theorem dX4_become_12 : decode cX4_become 12 = .ok (.arraylength, 1) := by decide +kernel
theorem dX4_become_13 : decode cX4_become 13 = .ok (.invokestatic 22, 3) := by decide +kernel
theorem dX4_become_16 : decode cX4_become 16 = .ok (.invokestatic 28, 3) := by decide +kernel
theorem dX4_become_19 : decode cX4_become 19 = .ok (.putfield 19, 3) := by decide +kernel
theorem dX4_become_22 : decode cX4_become 22 = .ok (.aload_n 0, 1) := by decide +kernel
theorem dX4_become_23 : decode cX4_become 23 = .ok (.getfield 9, 3) := by decide +kernel
theorem dX4_become_26 : decode cX4_become 26 = .ok (.iconst 0, 1) := by decide +kernel
theorem dX4_become_27 : decode cX4_become 27 = .ok (.invokestatic 31, 3) := by decide +kernel
theorem dX4_become_30 : decode cX4_become 30 = .ok (.return_, 1) := by decide +kernel
theorem dX4_refusalAs_0 : decode cX4_refusalAs 0 = .ok (.aload_n 0, 1) := by decide +kernel
theorem dX4_refusalAs_1 : decode cX4_refusalAs 1 = .ok (.getfield 15, 3) := by decide +kernel
theorem dX4_refusalAs_4 : decode cX4_refusalAs 4 = .ok (.iconst (-1), 1) := by decide +kernel
theorem dX4_refusalAs_5 : decode cX4_refusalAs 5 = .ok (.if_icmp .ne 6, 3) := by decide +kernel
theorem dX4_refusalAs_8 : decode cX4_refusalAs 8 = .ok (.bipush (-11), 2) := by decide +kernel
theorem dX4_refusalAs_10 : decode cX4_refusalAs 10 = .ok (.ireturn, 1) := by decide +kernel
theorem dX4_refusalAs_11 : decode cX4_refusalAs 11 = .ok (.aload_n 0, 1) := by decide +kernel
theorem dX4_refusalAs_12 : decode cX4_refusalAs 12 = .ok (.getfield 15, 3) := by decide +kernel
theorem dX4_refusalAs_15 : decode cX4_refusalAs 15 = .ok (.iload_n 1, 1) := by decide +kernel
theorem dX4_refusalAs_16 : decode cX4_refusalAs 16 = .ok (.if_icmp .ne 7, 3) := by decide +kernel
theorem dX4_refusalAs_19 : decode cX4_refusalAs 19 = .ok (.iconst 0, 1) := by decide +kernel
theorem dX4_refusalAs_20 : decode cX4_refusalAs 20 = .ok (.goto 5, 3) := by decide +kernel
theorem dX4_refusalAs_23 : decode cX4_refusalAs 23 = .ok (.bipush (-13), 2) := by decide +kernel
theorem dX4_refusalAs_25 : decode cX4_refusalAs 25 = .ok (.ireturn, 1) := by decide +kernel
theorem dX4_has_0 : decode cX4_has 0 = .ok (.iload_n 1, 1) := by decide +kernel
theorem dX4_has_1 : decode cX4_has 1 = .ok (.ifCond .lt 15, 3) := by decide +kernel
theorem dX4_has_4 : decode cX4_has 4 = .ok (.iload_n 1, 1) := by decide +kernel
theorem dX4_has_5 : decode cX4_has 5 = .ok (.aload_n 0, 1) := by decide +kernel
theorem dX4_has_6 : decode cX4_has 6 = .ok (.getfield 19, 3) := by decide +kernel
theorem dX4_has_9 : decode cX4_has 9 = .ok (.if_icmp .ge 7, 3) := by decide +kernel
theorem dX4_has_12 : decode cX4_has 12 = .ok (.iconst 1, 1) := by decide +kernel
theorem dX4_has_13 : decode cX4_has 13 = .ok (.goto 4, 3) := by decide +kernel
theorem dX4_has_16 : decode cX4_has 16 = .ok (.iconst 0, 1) := by decide +kernel
theorem dX4_has_17 : decode cX4_has 17 = .ok (.ireturn, 1) := by decide +kernel
theorem dX4_get_0 : decode cX4_get 0 = .ok (.aload_n 0, 1) := by decide +kernel
theorem dX4_get_1 : decode cX4_get 1 = .ok (.iload_n 1, 1) := by decide +kernel
theorem dX4_get_2 : decode cX4_get 2 = .ok (.invokevirtual 37, 3) := by decide +kernel
theorem dX4_get_5 : decode cX4_get 5 = .ok (.ifCond .eq 21, 3) := by decide +kernel
theorem dX4_get_8 : decode cX4_get 8 = .ok (.iload_n 1, 1) := by decide +kernel
theorem dX4_get_9 : decode cX4_get 9 = .ok (.aload_n 0, 1) := by decide +kernel
theorem dX4_get_10 : decode cX4_get 10 = .ok (.getfield 9, 3) := by decide +kernel
theorem dX4_get_13 : decode cX4_get 13 = .ok (.arraylength, 1) := by decide +kernel
theorem dX4_get_14 : decode cX4_get 14 = .ok (.if_icmp .ge 12, 3) := by decide +kernel
theorem dX4_get_17 : decode cX4_get 17 = .ok (.aload_n 0, 1) := by decide +kernel
theorem dX4_get_18 : decode cX4_get 18 = .ok (.getfield 9, 3) := by decide +kernel
theorem dX4_get_21 : decode cX4_get 21 = .ok (.iload_n 1, 1) := by decide +kernel
theorem dX4_get_22 : decode cX4_get 22 = .ok (.iaload, 1) := by decide +kernel
theorem dX4_get_23 : decode cX4_get 23 = .ok (.goto 4, 3) := by decide +kernel
theorem dX4_get_26 : decode cX4_get 26 = .ok (.iconst 0, 1) := by decide +kernel
theorem dX4_get_27 : decode cX4_get 27 = .ok (.ireturn, 1) := by decide +kernel
theorem dX4_set_0 : decode cX4_set 0 = .ok (.aload_n 0, 1) := by decide +kernel
theorem dX4_set_1 : decode cX4_set 1 = .ok (.iload_n 1, 1) := by decide +kernel
theorem dX4_set_2 : decode cX4_set 2 = .ok (.invokevirtual 37, 3) := by decide +kernel
theorem dX4_set_5 : decode cX4_set 5 = .ok (.ifCond .eq 12, 3) := by decide +kernel
theorem dX4_set_8 : decode cX4_set 8 = .ok (.iload_n 1, 1) := by decide +kernel
theorem dX4_set_9 : decode cX4_set 9 = .ok (.aload_n 0, 1) := by decide +kernel
theorem dX4_set_10 : decode cX4_set 10 = .ok (.getfield 9, 3) := by decide +kernel
theorem dX4_set_13 : decode cX4_set 13 = .ok (.arraylength, 1) := by decide +kernel
theorem dX4_set_14 : decode cX4_set 14 = .ok (.if_icmp .lt 4, 3) := by decide +kernel
theorem dX4_set_17 : decode cX4_set 17 = .ok (.return_, 1) := by decide +kernel
theorem dX4_set_18 : decode cX4_set 18 = .ok (.aload_n 0, 1) := by decide +kernel
theorem dX4_set_19 : decode cX4_set 19 = .ok (.getfield 15, 3) := by decide +kernel
theorem dX4_set_22 : decode cX4_set 22 = .ok (.ifCond .ne 14, 3) := by decide +kernel
theorem dX4_set_25 : decode cX4_set 25 = .ok (.aload_n 0, 1) := by decide +kernel
theorem dX4_set_26 : decode cX4_set 26 = .ok (.getfield 9, 3) := by decide +kernel
theorem dX4_set_29 : decode cX4_set 29 = .ok (.iload_n 1, 1) := by decide +kernel
theorem dX4_set_30 : decode cX4_set 30 = .ok (.iload_n 2, 1) := by decide +kernel
theorem dX4_set_31 : decode cX4_set 31 = .ok (.i2b, 1) := by decide +kernel
theorem dX4_set_32 : decode cX4_set 32 = .ok (.iastore, 1) := by decide +kernel
theorem dX4_set_33 : decode cX4_set 33 = .ok (.goto 23, 3) := by decide +kernel
theorem dX4_set_36 : decode cX4_set 36 = .ok (.aload_n 0, 1) := by decide +kernel
theorem dX4_set_37 : decode cX4_set 37 = .ok (.getfield 9, 3) := by decide +kernel
theorem dX4_set_40 : decode cX4_set 40 = .ok (.iload_n 1, 1) := by decide +kernel
theorem dX4_set_41 : decode cX4_set 41 = .ok (.aload_n 0, 1) := by decide +kernel
theorem dX4_set_42 : decode cX4_set 42 = .ok (.getfield 15, 3) := by decide +kernel
theorem dX4_set_45 : decode cX4_set 45 = .ok (.iconst 1, 1) := by decide +kernel
theorem dX4_set_46 : decode cX4_set 46 = .ok (.if_icmp .ne 8, 3) := by decide +kernel
theorem dX4_set_49 : decode cX4_set 49 = .ok (.iload_n 2, 1) := by decide +kernel
theorem dX4_set_50 : decode cX4_set 50 = .ok (.i2s, 1) := by decide +kernel
theorem dX4_set_51 : decode cX4_set 51 = .ok (.goto 4, 3) := by decide +kernel
theorem dX4_set_54 : decode cX4_set 54 = .ok (.iload_n 2, 1) := by decide +kernel
theorem dX4_set_55 : decode cX4_set 55 = .ok (.iastore, 1) := by decide +kernel
theorem dX4_set_56 : decode cX4_set 56 = .ok (.return_, 1) := by decide +kernel
theorem dX5_init_0 : decode cX5_init 0 = .ok (.aload_n 0, 1) := by decide +kernel
theorem dX5_init_1 : decode cX5_init 1 = .ok (.invokespecial 3, 3) := by decide +kernel
theorem dX5_init_4 : decode cX5_init 4 = .ok (.aload_n 0, 1) := by decide +kernel
theorem dX5_init_5 : decode cX5_init 5 = .ok (.iconst 0, 1) := by decide +kernel
theorem dX5_init_6 : decode cX5_init 6 = .ok (.putfield 9, 3) := by decide +kernel
theorem dX5_init_9 : decode cX5_init 9 = .ok (.aload_n 0, 1) := by decide +kernel
theorem dX5_init_10 : decode cX5_init 10 = .ok (.iconst 0, 1) := by decide +kernel
theorem dX5_init_11 : decode cX5_init 11 = .ok (.iload_n 1, 1) := by decide +kernel
theorem dX5_init_12 : decode cX5_init 12 = .ok (.invokestatic 15, 3) := by decide +kernel
theorem dX5_init_15 : decode cX5_init 15 = .ok (.putfield 21, 3) := by decide +kernel
theorem dX5_init_18 : decode cX5_init 18 = .ok (.aload_n 0, 1) := by decide +kernel
theorem dX5_init_19 : decode cX5_init 19 = .ok (.iconst 0, 1) := by decide +kernel
theorem dX5_init_20 : decode cX5_init 20 = .ok (.iload_n 2, 1) := by decide +kernel
theorem dX5_init_21 : decode cX5_init 21 = .ok (.invokestatic 15, 3) := by decide +kernel
theorem dX5_init_24 : decode cX5_init 24 = .ok (.putfield 24, 3) := by decide +kernel
theorem dX5_init_27 : decode cX5_init 27 = .ok (.aload_n 0, 1) := by decide +kernel
theorem dX5_init_28 : decode cX5_init 28 = .ok (.aload_n 0, 1) := by decide +kernel
theorem dX5_init_29 : decode cX5_init 29 = .ok (.getfield 21, 3) := by decide +kernel
theorem dX5_init_32 : decode cX5_init 32 = .ok (.aload_n 0, 1) := by decide +kernel
theorem dX5_init_33 : decode cX5_init 33 = .ok (.getfield 24, 3) := by decide +kernel
theorem dX5_init_36 : decode cX5_init 36 = .ok (.imul, 1) := by decide +kernel
theorem dX5_init_37 : decode cX5_init 37 = .ok (.newarray .int, 2) := by decide +kernel
theorem dX5_init_39 : decode cX5_init 39 = .ok (.putfield 27, 3) := by decide +kernel
theorem dX5_init_42 : decode cX5_init 42 = .ok (.return_, 1) := by decide +kernel
theorem dX5_has_0 : decode cX5_has 0 = .ok (.iload_n 1, 1) := by decide +kernel
theorem dX5_has_1 : decode cX5_has 1 = .ok (.ifCond .lt 15, 3) := by decide +kernel
theorem dX5_has_4 : decode cX5_has 4 = .ok (.iload_n 1, 1) := by decide +kernel
theorem dX5_has_5 : decode cX5_has 5 = .ok (.aload_n 0, 1) := by decide +kernel
theorem dX5_has_6 : decode cX5_has 6 = .ok (.getfield 9, 3) := by decide +kernel
theorem dX5_has_9 : decode cX5_has 9 = .ok (.if_icmp .ge 7, 3) := by decide +kernel
theorem dX5_has_12 : decode cX5_has 12 = .ok (.iconst 1, 1) := by decide +kernel
theorem dX5_has_13 : decode cX5_has 13 = .ok (.goto 4, 3) := by decide +kernel
theorem dX5_has_16 : decode cX5_has 16 = .ok (.iconst 0, 1) := by decide +kernel
theorem dX5_has_17 : decode cX5_has 17 = .ok (.ireturn, 1) := by decide +kernel
theorem dX5_isFull_0 : decode cX5_isFull 0 = .ok (.aload_n 0, 1) := by decide +kernel
theorem dX5_isFull_1 : decode cX5_isFull 1 = .ok (.getfield 9, 3) := by decide +kernel
theorem dX5_isFull_4 : decode cX5_isFull 4 = .ok (.aload_n 0, 1) := by decide +kernel
theorem dX5_isFull_5 : decode cX5_isFull 5 = .ok (.getfield 24, 3) := by decide +kernel
theorem dX5_isFull_8 : decode cX5_isFull 8 = .ok (.if_icmp .lt 7, 3) := by decide +kernel
theorem dX5_isFull_11 : decode cX5_isFull 11 = .ok (.iconst 1, 1) := by decide +kernel
theorem dX5_isFull_12 : decode cX5_isFull 12 = .ok (.goto 4, 3) := by decide +kernel
theorem dX5_isFull_15 : decode cX5_isFull 15 = .ok (.iconst 0, 1) := by decide +kernel
theorem dX5_isFull_16 : decode cX5_isFull 16 = .ok (.ireturn, 1) := by decide +kernel
theorem dX5_add_0 : decode cX5_add 0 = .ok (.aload_n 0, 1) := by decide +kernel
theorem dX5_add_1 : decode cX5_add 1 = .ok (.getfield 9, 3) := by decide +kernel
theorem dX5_add_4 : decode cX5_add 4 = .ok (.ifCond .lt 14, 3) := by decide +kernel
theorem dX5_add_7 : decode cX5_add 7 = .ok (.aload_n 0, 1) := by decide +kernel
theorem dX5_add_8 : decode cX5_add 8 = .ok (.getfield 9, 3) := by decide +kernel
theorem dX5_add_11 : decode cX5_add 11 = .ok (.aload_n 0, 1) := by decide +kernel
theorem dX5_add_12 : decode cX5_add 12 = .ok (.getfield 24, 3) := by decide +kernel
theorem dX5_add_15 : decode cX5_add 15 = .ok (.if_icmp .lt 6, 3) := by decide +kernel
theorem dX5_add_18 : decode cX5_add 18 = .ok (.bipush (-3), 2) := by decide +kernel
theorem dX5_add_20 : decode cX5_add 20 = .ok (.ireturn, 1) := by decide +kernel
theorem dX5_add_21 : decode cX5_add 21 = .ok (.aload_n 0, 1) := by decide +kernel
theorem dX5_add_22 : decode cX5_add 22 = .ok (.getfield 9, 3) := by decide +kernel
theorem dX5_add_25 : decode cX5_add 25 = .ok (.istore_n 1, 1) := by decide +kernel
theorem dX5_add_26 : decode cX5_add 26 = .ok (.aload_n 0, 1) := by decide +kernel
theorem dX5_add_27 : decode cX5_add 27 = .ok (.dup, 1) := by decide +kernel
theorem dX5_add_28 : decode cX5_add 28 = .ok (.getfield 9, 3) := by decide +kernel
theorem dX5_add_31 : decode cX5_add 31 = .ok (.iconst 1, 1) := by decide +kernel
theorem dX5_add_32 : decode cX5_add 32 = .ok (.iadd, 1) := by decide +kernel
theorem dX5_add_33 : decode cX5_add 33 = .ok (.putfield 9, 3) := by decide +kernel
theorem dX5_add_36 : decode cX5_add 36 = .ok (.iload_n 1, 1) := by decide +kernel
theorem dX5_add_37 : decode cX5_add 37 = .ok (.aload_n 0, 1) := by decide +kernel
theorem dX5_add_38 : decode cX5_add 38 = .ok (.getfield 21, 3) := by decide +kernel
theorem dX5_add_41 : decode cX5_add 41 = .ok (.imul, 1) := by decide +kernel
theorem dX5_add_42 : decode cX5_add 42 = .ok (.istore_n 2, 1) := by decide +kernel
theorem dX5_add_43 : decode cX5_add 43 = .ok (.iload_n 2, 1) := by decide +kernel
theorem dX5_add_44 : decode cX5_add 44 = .ok (.aload_n 0, 1) := by decide +kernel
theorem dX5_add_45 : decode cX5_add 45 = .ok (.getfield 9, 3) := by decide +kernel
theorem dX5_add_48 : decode cX5_add 48 = .ok (.aload_n 0, 1) := by decide +kernel
theorem dX5_add_49 : decode cX5_add 49 = .ok (.getfield 21, 3) := by decide +kernel
theorem dX5_add_52 : decode cX5_add 52 = .ok (.imul, 1) := by decide +kernel
theorem dX5_add_53 : decode cX5_add 53 = .ok (.if_icmp .ge 25, 3) := by decide +kernel
theorem dX5_add_56 : decode cX5_add 56 = .ok (.iload_n 2, 1) := by decide +kernel
theorem dX5_add_57 : decode cX5_add 57 = .ok (.aload_n 0, 1) := by decide +kernel
theorem dX5_add_58 : decode cX5_add 58 = .ok (.getfield 27, 3) := by decide +kernel
theorem dX5_add_61 : decode cX5_add 61 = .ok (.arraylength, 1) := by decide +kernel
theorem dX5_add_62 : decode cX5_add 62 = .ok (.if_icmp .ge 16, 3) := by decide +kernel
theorem dX5_add_65 : decode cX5_add 65 = .ok (.aload_n 0, 1) := by decide +kernel
theorem dX5_add_66 : decode cX5_add 66 = .ok (.getfield 27, 3) := by decide +kernel
theorem dX5_add_69 : decode cX5_add 69 = .ok (.iload_n 2, 1) := by decide +kernel
theorem dX5_add_70 : decode cX5_add 70 = .ok (.iconst 0, 1) := by decide +kernel
theorem dX5_add_71 : decode cX5_add 71 = .ok (.iastore, 1) := by decide +kernel
theorem dX5_add_72 : decode cX5_add 72 = .ok (.iinc 2 1, 3) := by decide +kernel
theorem dX5_add_75 : decode cX5_add 75 = .ok (.goto (-32), 3) := by decide +kernel
theorem dX5_add_78 : decode cX5_add 78 = .ok (.iload_n 1, 1) := by decide +kernel
theorem dX5_add_79 : decode cX5_add 79 = .ok (.ireturn, 1) := by decide +kernel
theorem dX5_get_0 : decode cX5_get 0 = .ok (.iload_n 1, 1) := by decide +kernel
theorem dX5_get_1 : decode cX5_get 1 = .ok (.ifCond .lt 23, 3) := by decide +kernel
theorem dX5_get_4 : decode cX5_get 4 = .ok (.iload_n 1, 1) := by decide +kernel
theorem dX5_get_5 : decode cX5_get 5 = .ok (.aload_n 0, 1) := by decide +kernel
theorem dX5_get_6 : decode cX5_get 6 = .ok (.getfield 9, 3) := by decide +kernel
theorem dX5_get_9 : decode cX5_get 9 = .ok (.if_icmp .ge 15, 3) := by decide +kernel
theorem dX5_get_12 : decode cX5_get 12 = .ok (.iload_n 2, 1) := by decide +kernel
theorem dX5_get_13 : decode cX5_get 13 = .ok (.ifCond .lt 11, 3) := by decide +kernel
theorem dX5_get_16 : decode cX5_get 16 = .ok (.iload_n 2, 1) := by decide +kernel
theorem dX5_get_17 : decode cX5_get 17 = .ok (.aload_n 0, 1) := by decide +kernel
theorem dX5_get_18 : decode cX5_get 18 = .ok (.getfield 21, 3) := by decide +kernel
theorem dX5_get_21 : decode cX5_get 21 = .ok (.if_icmp .lt 5, 3) := by decide +kernel
theorem dX5_get_24 : decode cX5_get 24 = .ok (.iconst 0, 1) := by decide +kernel
theorem dX5_get_25 : decode cX5_get 25 = .ok (.ireturn, 1) := by decide +kernel
theorem dX5_get_26 : decode cX5_get 26 = .ok (.iload_n 1, 1) := by decide +kernel
theorem dX5_get_27 : decode cX5_get 27 = .ok (.aload_n 0, 1) := by decide +kernel
theorem dX5_get_28 : decode cX5_get 28 = .ok (.getfield 21, 3) := by decide +kernel
theorem dX5_get_31 : decode cX5_get 31 = .ok (.imul, 1) := by decide +kernel
theorem dX5_get_32 : decode cX5_get 32 = .ok (.iload_n 2, 1) := by decide +kernel
theorem dX5_get_33 : decode cX5_get 33 = .ok (.iadd, 1) := by decide +kernel
theorem dX5_get_34 : decode cX5_get 34 = .ok (.istore_n 3, 1) := by decide +kernel
theorem dX5_get_35 : decode cX5_get 35 = .ok (.iload_n 3, 1) := by decide +kernel
theorem dX5_get_36 : decode cX5_get 36 = .ok (.aload_n 0, 1) := by decide +kernel
theorem dX5_get_37 : decode cX5_get 37 = .ok (.getfield 27, 3) := by decide +kernel
theorem dX5_get_40 : decode cX5_get 40 = .ok (.arraylength, 1) := by decide +kernel
theorem dX5_get_41 : decode cX5_get 41 = .ok (.if_icmp .ge 12, 3) := by decide +kernel
theorem dX5_get_44 : decode cX5_get 44 = .ok (.aload_n 0, 1) := by decide +kernel
theorem dX5_get_45 : decode cX5_get 45 = .ok (.getfield 27, 3) := by decide +kernel
theorem dX5_get_48 : decode cX5_get 48 = .ok (.iload_n 3, 1) := by decide +kernel
theorem dX5_get_49 : decode cX5_get 49 = .ok (.iaload, 1) := by decide +kernel
theorem dX5_get_50 : decode cX5_get 50 = .ok (.goto 4, 3) := by decide +kernel
theorem dX5_get_53 : decode cX5_get 53 = .ok (.iconst 0, 1) := by decide +kernel
theorem dX5_get_54 : decode cX5_get 54 = .ok (.ireturn, 1) := by decide +kernel
theorem dX5_set_0 : decode cX5_set 0 = .ok (.iload_n 1, 1) := by decide +kernel
theorem dX5_set_1 : decode cX5_set 1 = .ok (.ifCond .lt 23, 3) := by decide +kernel
theorem dX5_set_4 : decode cX5_set 4 = .ok (.iload_n 1, 1) := by decide +kernel
theorem dX5_set_5 : decode cX5_set 5 = .ok (.aload_n 0, 1) := by decide +kernel
theorem dX5_set_6 : decode cX5_set 6 = .ok (.getfield 9, 3) := by decide +kernel
theorem dX5_set_9 : decode cX5_set 9 = .ok (.if_icmp .ge 15, 3) := by decide +kernel
theorem dX5_set_12 : decode cX5_set 12 = .ok (.iload_n 2, 1) := by decide +kernel
theorem dX5_set_13 : decode cX5_set 13 = .ok (.ifCond .lt 11, 3) := by decide +kernel
theorem dX5_set_16 : decode cX5_set 16 = .ok (.iload_n 2, 1) := by decide +kernel
theorem dX5_set_17 : decode cX5_set 17 = .ok (.aload_n 0, 1) := by decide +kernel
theorem dX5_set_18 : decode cX5_set 18 = .ok (.getfield 21, 3) := by decide +kernel
theorem dX5_set_21 : decode cX5_set 21 = .ok (.if_icmp .lt 4, 3) := by decide +kernel
theorem dX5_set_24 : decode cX5_set 24 = .ok (.return_, 1) := by decide +kernel
theorem dX5_set_25 : decode cX5_set 25 = .ok (.iload_n 1, 1) := by decide +kernel
theorem dX5_set_26 : decode cX5_set 26 = .ok (.aload_n 0, 1) := by decide +kernel
theorem dX5_set_27 : decode cX5_set 27 = .ok (.getfield 21, 3) := by decide +kernel
theorem dX5_set_30 : decode cX5_set 30 = .ok (.imul, 1) := by decide +kernel
theorem dX5_set_31 : decode cX5_set 31 = .ok (.iload_n 2, 1) := by decide +kernel
theorem dX5_set_32 : decode cX5_set 32 = .ok (.iadd, 1) := by decide +kernel
theorem dX5_set_33 : decode cX5_set 33 = .ok (.istore 4, 2) := by decide +kernel
theorem dX5_set_35 : decode cX5_set 35 = .ok (.iload 4, 2) := by decide +kernel
theorem dX5_set_37 : decode cX5_set 37 = .ok (.aload_n 0, 1) := by decide +kernel
theorem dX5_set_38 : decode cX5_set 38 = .ok (.getfield 27, 3) := by decide +kernel
theorem dX5_set_41 : decode cX5_set 41 = .ok (.arraylength, 1) := by decide +kernel
theorem dX5_set_42 : decode cX5_set 42 = .ok (.if_icmp .ge 11, 3) := by decide +kernel
theorem dX5_set_45 : decode cX5_set 45 = .ok (.aload_n 0, 1) := by decide +kernel
theorem dX5_set_46 : decode cX5_set 46 = .ok (.getfield 27, 3) := by decide +kernel
theorem dX5_set_49 : decode cX5_set 49 = .ok (.iload 4, 2) := by decide +kernel
theorem dX5_set_51 : decode cX5_set 51 = .ok (.iload_n 3, 1) := by decide +kernel
theorem dX5_set_52 : decode cX5_set 52 = .ok (.iastore, 1) := by decide +kernel
theorem dX5_set_53 : decode cX5_set 53 = .ok (.return_, 1) := by decide +kernel
theorem dX5_clear_0 : decode cX5_clear 0 = .ok (.aload_n 0, 1) := by decide +kernel
theorem dX5_clear_1 : decode cX5_clear 1 = .ok (.iconst 0, 1) := by decide +kernel
theorem dX5_clear_2 : decode cX5_clear 2 = .ok (.putfield 9, 3) := by decide +kernel
theorem dX5_clear_5 : decode cX5_clear 5 = .ok (.return_, 1) := by decide +kernel
theorem dX5_become_0 : decode cX5_become 0 = .ok (.aload_n 1, 1) := by decide +kernel
theorem dX5_become_1 : decode cX5_become 1 = .ok (.getfield 27, 3) := by decide +kernel
theorem dX5_become_4 : decode cX5_become 4 = .ok (.iconst 0, 1) := by decide +kernel
theorem dX5_become_5 : decode cX5_become 5 = .ok (.aload_n 0, 1) := by decide +kernel
theorem dX5_become_6 : decode cX5_become 6 = .ok (.getfield 27, 3) := by decide +kernel
theorem dX5_become_9 : decode cX5_become 9 = .ok (.iconst 0, 1) := by decide +kernel
theorem dX5_become_10 : decode cX5_become 10 = .ok (.aload_n 0, 1) := by decide +kernel
theorem dX5_become_11 : decode cX5_become 11 = .ok (.getfield 27, 3) := by decide +kernel
theorem dX5_become_14 : decode cX5_become 14 = .ok (.arraylength, 1) := by decide +kernel
theorem dX5_become_15 : decode cX5_become 15 = .ok (.aload_n 1, 1) := by decide +kernel
theorem dX5_become_16 : decode cX5_become 16 = .ok (.getfield 27, 3) := by decide +kernel
theorem dX5_become_19 : decode cX5_become 19 = .ok (.arraylength, 1) := by decide +kernel
theorem dX5_become_20 : decode cX5_become 20 = .ok (.invokestatic 31, 3) := by decide +kernel
theorem dX5_become_23 : decode cX5_become 23 = .ok (.invokestatic 34, 3) := by decide +kernel
theorem dX5_become_26 : decode cX5_become 26 = .ok (.aload_n 0, 1) := by decide +kernel
theorem dX5_become_27 : decode cX5_become 27 = .ok (.aload_n 1, 1) := by decide +kernel
theorem dX5_become_28 : decode cX5_become 28 = .ok (.getfield 9, 3) := by decide +kernel
theorem dX5_become_31 : decode cX5_become 31 = .ok (.aload_n 0, 1) := by decide +kernel
theorem dX5_become_32 : decode cX5_become 32 = .ok (.getfield 24, 3) := by decide +kernel
theorem dX5_become_35 : decode cX5_become 35 = .ok (.invokestatic 31, 3) := by decide +kernel
theorem dX5_become_38 : decode cX5_become 38 = .ok (.putfield 9, 3) := by decide +kernel
theorem dX5_become_41 : decode cX5_become 41 = .ok (.return_, 1) := by decide +kernel
theorem dX6_init_0 : decode cX6_init 0 = .ok (.aload_n 0, 1) := by decide +kernel
theorem dX6_init_1 : decode cX6_init 1 = .ok (.invokespecial 3, 3) := by decide +kernel
theorem dX6_init_4 : decode cX6_init 4 = .ok (.aload_n 0, 1) := by decide +kernel
theorem dX6_init_5 : decode cX6_init 5 = .ok (.new 9, 3) := by decide +kernel
theorem dX6_init_8 : decode cX6_init 8 = .ok (.dup, 1) := by decide +kernel
theorem dX6_init_9 : decode cX6_init 9 = .ok (.bipush 30, 2) := by decide +kernel
theorem dX6_init_11 : decode cX6_init 11 = .ok (.invokespecial 11, 3) := by decide +kernel
theorem dX6_init_14 : decode cX6_init 14 = .ok (.putfield 14, 3) := by decide +kernel
theorem dX6_init_17 : decode cX6_init 17 = .ok (.aload_n 0, 1) := by decide +kernel
theorem dX6_init_18 : decode cX6_init 18 = .ok (.iconst 0, 1) := by decide +kernel
theorem dX6_init_19 : decode cX6_init 19 = .ok (.putfield 20, 3) := by decide +kernel
theorem dX6_init_22 : decode cX6_init 22 = .ok (.aload_n 0, 1) := by decide +kernel
theorem dX6_init_23 : decode cX6_init 23 = .ok (.iconst 0, 1) := by decide +kernel
theorem dX6_init_24 : decode cX6_init 24 = .ok (.putfield 24, 3) := by decide +kernel
theorem dX6_init_27 : decode cX6_init 27 = .ok (.aload_n 0, 1) := by decide +kernel
theorem dX6_init_28 : decode cX6_init 28 = .ok (.iconst 0, 1) := by decide +kernel
theorem dX6_init_29 : decode cX6_init 29 = .ok (.putfield 27, 3) := by decide +kernel
theorem dX6_init_32 : decode cX6_init 32 = .ok (.aload_n 0, 1) := by decide +kernel
theorem dX6_init_33 : decode cX6_init 33 = .ok (.iconst 0, 1) := by decide +kernel
theorem dX6_init_34 : decode cX6_init 34 = .ok (.putfield 30, 3) := by decide +kernel
theorem dX6_init_37 : decode cX6_init 37 = .ok (.return_, 1) := by decide +kernel
theorem dX6_perform_0 : decode cX6_perform 0 = .ok (.aload_n 0, 1) := by decide +kernel
theorem dX6_perform_1 : decode cX6_perform 1 = .ok (.iconst 0, 1) := by decide +kernel
theorem dX6_perform_2 : decode cX6_perform 2 = .ok (.putfield 30, 3) := by decide +kernel
theorem dX6_perform_5 : decode cX6_perform 5 = .ok (.iconst 0, 1) := by decide +kernel
theorem dX6_perform_6 : decode cX6_perform 6 = .ok (.istore_n 3, 1) := by decide +kernel
theorem dX6_perform_7 : decode cX6_perform 7 = .ok (.iload_n 1, 1) := by decide +kernel
theorem dX6_perform_8 : decode cX6_perform 8 = .ok (.tableswitch 68 0 3 #[32, 41, 50, 59], 32) := by decide +kernel
theorem dX6_perform_40 : decode cX6_perform 40 = .ok (.aload_n 0, 1) := by decide +kernel
theorem dX6_perform_41 : decode cX6_perform 41 = .ok (.iload_n 2, 1) := by decide +kernel
theorem dX6_perform_42 : decode cX6_perform 42 = .ok (.invokevirtual 34, 3) := by decide +kernel
theorem dX6_perform_45 : decode cX6_perform 45 = .ok (.istore_n 3, 1) := by decide +kernel
theorem dX6_perform_46 : decode cX6_perform 46 = .ok (.goto 32, 3) := by decide +kernel
theorem dX6_perform_49 : decode cX6_perform 49 = .ok (.aload_n 0, 1) := by decide +kernel
theorem dX6_perform_50 : decode cX6_perform 50 = .ok (.iload_n 2, 1) := by decide +kernel
theorem dX6_perform_51 : decode cX6_perform 51 = .ok (.invokevirtual 38, 3) := by decide +kernel
theorem dX6_perform_54 : decode cX6_perform 54 = .ok (.istore_n 3, 1) := by decide +kernel
theorem dX6_perform_55 : decode cX6_perform 55 = .ok (.goto 23, 3) := by decide +kernel
theorem dX6_perform_58 : decode cX6_perform 58 = .ok (.aload_n 0, 1) := by decide +kernel
theorem dX6_perform_59 : decode cX6_perform 59 = .ok (.iload_n 2, 1) := by decide +kernel
theorem dX6_perform_60 : decode cX6_perform 60 = .ok (.invokevirtual 41, 3) := by decide +kernel
theorem dX6_perform_63 : decode cX6_perform 63 = .ok (.istore_n 3, 1) := by decide +kernel
theorem dX6_perform_64 : decode cX6_perform 64 = .ok (.goto 14, 3) := by decide +kernel
theorem dX6_perform_67 : decode cX6_perform 67 = .ok (.aload_n 0, 1) := by decide +kernel
theorem dX6_perform_68 : decode cX6_perform 68 = .ok (.iload_n 2, 1) := by decide +kernel
theorem dX6_perform_69 : decode cX6_perform 69 = .ok (.invokevirtual 44, 3) := by decide +kernel
theorem dX6_perform_72 : decode cX6_perform 72 = .ok (.istore_n 3, 1) := by decide +kernel
theorem dX6_perform_73 : decode cX6_perform 73 = .ok (.goto 5, 3) := by decide +kernel
theorem dX6_perform_76 : decode cX6_perform 76 = .ok (.iconst 0, 1) := by decide +kernel
theorem dX6_perform_77 : decode cX6_perform 77 = .ok (.ireturn, 1) := by decide +kernel
theorem dX6_perform_78 : decode cX6_perform 78 = .ok (.aload_n 0, 1) := by decide +kernel
theorem dX6_perform_79 : decode cX6_perform 79 = .ok (.getfield 30, 3) := by decide +kernel
theorem dX6_perform_82 : decode cX6_perform 82 = .ok (.ifCond .eq 8, 3) := by decide +kernel
theorem dX6_perform_85 : decode cX6_perform 85 = .ok (.bipush (-15), 2) := by decide +kernel
theorem dX6_perform_87 : decode cX6_perform 87 = .ok (.goto 4, 3) := by decide +kernel
theorem dX6_perform_90 : decode cX6_perform 90 = .ok (.iload_n 3, 1) := by decide +kernel
theorem dX6_perform_91 : decode cX6_perform 91 = .ok (.ireturn, 1) := by decide +kernel
theorem dX6_runs_0 : decode cX6_runs 0 = .ok (.aload_n 0, 1) := by decide +kernel
theorem dX6_runs_1 : decode cX6_runs 1 = .ok (.getfield 20, 3) := by decide +kernel
theorem dX6_runs_4 : decode cX6_runs 4 = .ok (.iload_n 2, 1) := by decide +kernel
theorem dX6_runs_5 : decode cX6_runs 5 = .ok (.invokestatic 47, 3) := by decide +kernel
theorem dX6_runs_8 : decode cX6_runs 8 = .ok (.ifCond .ne 5, 3) := by decide +kernel
theorem dX6_runs_11 : decode cX6_runs 11 = .ok (.iconst 0, 1) := by decide +kernel
theorem dX6_runs_12 : decode cX6_runs 12 = .ok (.ireturn, 1) := by decide +kernel
theorem dX6_runs_13 : decode cX6_runs 13 = .ok (.aload_n 0, 1) := by decide +kernel
theorem dX6_runs_14 : decode cX6_runs 14 = .ok (.getfield 14, 3) := by decide +kernel
theorem dX6_runs_17 : decode cX6_runs 17 = .ok (.iload_n 1, 1) := by decide +kernel
theorem dX6_runs_18 : decode cX6_runs 18 = .ok (.invokevirtual 51, 3) := by decide +kernel
theorem dX6_runs_21 : decode cX6_runs 21 = .ok (.iconst 1, 1) := by decide +kernel
theorem dX6_runs_22 : decode cX6_runs 22 = .ok (.ireturn, 1) := by decide +kernel
theorem dX6_saysOf_0 : decode cX6_saysOf 0 = .ok (.aload_n 0, 1) := by decide +kernel
theorem dX6_saysOf_1 : decode cX6_saysOf 1 = .ok (.bipush 80, 2) := by decide +kernel
theorem dX6_saysOf_3 : decode cX6_saysOf 3 = .ok (.bipush 8, 2) := by decide +kernel
theorem dX6_saysOf_5 : decode cX6_saysOf 5 = .ok (.invokevirtual 54, 3) := by decide +kernel
theorem dX6_saysOf_8 : decode cX6_saysOf 8 = .ok (.ifCond .eq 10, 3) := by decide +kernel
theorem dX6_saysOf_11 : decode cX6_saysOf 11 = .ok (.aload_n 0, 1) := by decide +kernel
theorem dX6_saysOf_12 : decode cX6_saysOf 12 = .ok (.getfield 27, 3) := by decide +kernel
theorem dX6_saysOf_15 : decode cX6_saysOf 15 = .ok (.iload_n 1, 1) := by decide +kernel
theorem dX6_saysOf_16 : decode cX6_saysOf 16 = .ok (.isub, 1) := by decide +kernel
theorem dX6_saysOf_17 : decode cX6_saysOf 17 = .ok (.ireturn, 1) := by decide +kernel
theorem dX6_saysOf_18 : decode cX6_saysOf 18 = .ok (.aload_n 0, 1) := by decide +kernel
theorem dX6_saysOf_19 : decode cX6_saysOf 19 = .ok (.bipush 70, 2) := by decide +kernel
theorem dX6_saysOf_21 : decode cX6_saysOf 21 = .ok (.bipush 7, 2) := by decide +kernel
theorem dX6_saysOf_23 : decode cX6_saysOf 23 = .ok (.invokevirtual 54, 3) := by decide +kernel
theorem dX6_saysOf_26 : decode cX6_saysOf 26 = .ok (.istore_n 2, 1) := by decide +kernel
theorem dX6_saysOf_27 : decode cX6_saysOf 27 = .ok (.aload_n 0, 1) := by decide +kernel
theorem dX6_saysOf_28 : decode cX6_saysOf 28 = .ok (.bipush 50, 2) := by decide +kernel
theorem dX6_saysOf_30 : decode cX6_saysOf 30 = .ok (.iconst 5, 1) := by decide +kernel
theorem dX6_saysOf_31 : decode cX6_saysOf 31 = .ok (.invokevirtual 54, 3) := by decide +kernel
theorem dX6_saysOf_34 : decode cX6_saysOf 34 = .ok (.istore_n 3, 1) := by decide +kernel
theorem dX6_saysOf_35 : decode cX6_saysOf 35 = .ok (.aload_n 0, 1) := by decide +kernel
theorem dX6_saysOf_36 : decode cX6_saysOf 36 = .ok (.bipush 20, 2) := by decide +kernel
theorem dX6_saysOf_38 : decode cX6_saysOf 38 = .ok (.iconst 2, 1) := by decide +kernel
theorem dX6_saysOf_39 : decode cX6_saysOf 39 = .ok (.invokevirtual 54, 3) := by decide +kernel
theorem dX6_saysOf_42 : decode cX6_saysOf 42 = .ok (.istore 4, 2) := by decide +kernel
theorem dX6_saysOf_44 : decode cX6_saysOf 44 = .ok (.aload_n 0, 1) := by decide +kernel
theorem dX6_saysOf_45 : decode cX6_saysOf 45 = .ok (.getfield 14, 3) := by decide +kernel
theorem dX6_saysOf_48 : decode cX6_saysOf 48 = .ok (.bipush 10, 2) := by decide +kernel
theorem dX6_saysOf_50 : decode cX6_saysOf 50 = .ok (.invokevirtual 51, 3) := by decide +kernel
theorem dX6_saysOf_53 : decode cX6_saysOf 53 = .ok (.iload_n 1, 1) := by decide +kernel
theorem dX6_saysOf_54 : decode cX6_saysOf 54 = .ok (.aload_n 0, 1) := by decide +kernel
theorem dX6_saysOf_55 : decode cX6_saysOf 55 = .ok (.getfield 27, 3) := by decide +kernel
theorem dX6_saysOf_58 : decode cX6_saysOf 58 = .ok (.iadd, 1) := by decide +kernel
theorem dX6_saysOf_59 : decode cX6_saysOf 59 = .ok (.istore 5, 2) := by decide +kernel
theorem dX6_saysOf_61 : decode cX6_saysOf 61 = .ok (.iload 4, 2) := by decide +kernel
theorem dX6_saysOf_63 : decode cX6_saysOf 63 = .ok (.ifCond .eq 6, 3) := by decide +kernel
theorem dX6_saysOf_66 : decode cX6_saysOf 66 = .ok (.iinc 5 (-1), 3) := by decide +kernel
theorem dX6_saysOf_69 : decode cX6_saysOf 69 = .ok (.iload_n 3, 1) := by decide +kernel
theorem dX6_saysOf_70 : decode cX6_saysOf 70 = .ok (.ifCond .eq 12, 3) := by decide +kernel
theorem dX6_saysOf_73 : decode cX6_saysOf 73 = .ok (.iload 5, 2) := by decide +kernel
theorem dX6_saysOf_75 : decode cX6_saysOf 75 = .ok (.aload_n 0, 1) := by decide +kernel
theorem dX6_saysOf_76 : decode cX6_saysOf 76 = .ok (.getfield 27, 3) := by decide +kernel
theorem dX6_saysOf_79 : decode cX6_saysOf 79 = .ok (.ixor, 1) := by decide +kernel
theorem dX6_saysOf_80 : decode cX6_saysOf 80 = .ok (.istore 5, 2) := by decide +kernel
theorem dX6_saysOf_82 : decode cX6_saysOf 82 = .ok (.iload_n 2, 1) := by decide +kernel
theorem dX6_saysOf_83 : decode cX6_saysOf 83 = .ok (.ifCond .eq 10, 3) := by decide +kernel
theorem dX6_saysOf_86 : decode cX6_saysOf 86 = .ok (.iload 5, 2) := by decide +kernel
theorem dX6_saysOf_88 : decode cX6_saysOf 88 = .ok (.iconst 5, 1) := by decide +kernel
theorem dX6_saysOf_89 : decode cX6_saysOf 89 = .ok (.imul, 1) := by decide +kernel
theorem dX6_saysOf_90 : decode cX6_saysOf 90 = .ok (.goto 5, 3) := by decide +kernel
theorem dX6_saysOf_93 : decode cX6_saysOf 93 = .ok (.iload 5, 2) := by decide +kernel
theorem dX6_saysOf_95 : decode cX6_saysOf 95 = .ok (.ireturn, 1) := by decide +kernel
theorem dX6_leansOf_0 : decode cX6_leansOf 0 = .ok (.aload_n 0, 1) := by decide +kernel
theorem dX6_leansOf_1 : decode cX6_leansOf 1 = .ok (.bipush 81, 2) := by decide +kernel
theorem dX6_leansOf_3 : decode cX6_leansOf 3 = .ok (.bipush 8, 2) := by decide +kernel
theorem dX6_leansOf_5 : decode cX6_leansOf 5 = .ok (.invokevirtual 54, 3) := by decide +kernel
theorem dX6_leansOf_8 : decode cX6_leansOf 8 = .ok (.ifCond .eq 10, 3) := by decide +kernel
theorem dX6_leansOf_11 : decode cX6_leansOf 11 = .ok (.iload_n 1, 1) := by decide +kernel
theorem dX6_leansOf_12 : decode cX6_leansOf 12 = .ok (.aload_n 0, 1) := by decide +kernel
theorem dX6_leansOf_13 : decode cX6_leansOf 13 = .ok (.getfield 24, 3) := by decide +kernel
theorem dX6_leansOf_16 : decode cX6_leansOf 16 = .ok (.iadd, 1) := by decide +kernel
theorem dX6_leansOf_17 : decode cX6_leansOf 17 = .ok (.ireturn, 1) := by decide +kernel
theorem dX6_leansOf_18 : decode cX6_leansOf 18 = .ok (.aload_n 0, 1) := by decide +kernel
theorem dX6_leansOf_19 : decode cX6_leansOf 19 = .ok (.bipush 60, 2) := by decide +kernel
theorem dX6_leansOf_21 : decode cX6_leansOf 21 = .ok (.bipush 6, 2) := by decide +kernel
theorem dX6_leansOf_23 : decode cX6_leansOf 23 = .ok (.invokevirtual 54, 3) := by decide +kernel
theorem dX6_leansOf_26 : decode cX6_leansOf 26 = .ok (.istore_n 2, 1) := by decide +kernel
theorem dX6_leansOf_27 : decode cX6_leansOf 27 = .ok (.aload_n 0, 1) := by decide +kernel
theorem dX6_leansOf_28 : decode cX6_leansOf 28 = .ok (.bipush 30, 2) := by decide +kernel
theorem dX6_leansOf_30 : decode cX6_leansOf 30 = .ok (.iconst 3, 1) := by decide +kernel
theorem dX6_leansOf_31 : decode cX6_leansOf 31 = .ok (.invokevirtual 54, 3) := by decide +kernel
theorem dX6_leansOf_34 : decode cX6_leansOf 34 = .ok (.istore_n 3, 1) := by decide +kernel
theorem dX6_leansOf_35 : decode cX6_leansOf 35 = .ok (.aload_n 0, 1) := by decide +kernel
theorem dX6_leansOf_36 : decode cX6_leansOf 36 = .ok (.getfield 14, 3) := by decide +kernel
theorem dX6_leansOf_39 : decode cX6_leansOf 39 = .ok (.bipush 11, 2) := by decide +kernel
theorem dX6_leansOf_41 : decode cX6_leansOf 41 = .ok (.invokevirtual 51, 3) := by decide +kernel
theorem dX6_leansOf_44 : decode cX6_leansOf 44 = .ok (.aload_n 0, 1) := by decide +kernel
theorem dX6_leansOf_45 : decode cX6_leansOf 45 = .ok (.iload_n 1, 1) := by decide +kernel
theorem dX6_leansOf_46 : decode cX6_leansOf 46 = .ok (.invokevirtual 34, 3) := by decide +kernel
theorem dX6_leansOf_49 : decode cX6_leansOf 49 = .ok (.iconst 2, 1) := by decide +kernel
theorem dX6_leansOf_50 : decode cX6_leansOf 50 = .ok (.imul, 1) := by decide +kernel
theorem dX6_leansOf_51 : decode cX6_leansOf 51 = .ok (.istore 4, 2) := by decide +kernel
theorem dX6_leansOf_53 : decode cX6_leansOf 53 = .ok (.iload_n 3, 1) := by decide +kernel
theorem dX6_leansOf_54 : decode cX6_leansOf 54 = .ok (.ifCond .eq 16, 3) := by decide +kernel
theorem dX6_leansOf_57 : decode cX6_leansOf 57 = .ok (.iload 4, 2) := by decide +kernel
theorem dX6_leansOf_59 : decode cX6_leansOf 59 = .ok (.aload_n 0, 1) := by decide +kernel
theorem dX6_leansOf_60 : decode cX6_leansOf 60 = .ok (.aload_n 0, 1) := by decide +kernel
theorem dX6_leansOf_61 : decode cX6_leansOf 61 = .ok (.getfield 24, 3) := by decide +kernel
theorem dX6_leansOf_64 : decode cX6_leansOf 64 = .ok (.invokevirtual 34, 3) := by decide +kernel
theorem dX6_leansOf_67 : decode cX6_leansOf 67 = .ok (.iadd, 1) := by decide +kernel
theorem dX6_leansOf_68 : decode cX6_leansOf 68 = .ok (.istore 4, 2) := by decide +kernel
theorem dX6_leansOf_70 : decode cX6_leansOf 70 = .ok (.iload_n 2, 1) := by decide +kernel
theorem dX6_leansOf_71 : decode cX6_leansOf 71 = .ok (.ifCond .eq 10, 3) := by decide +kernel
theorem dX6_leansOf_74 : decode cX6_leansOf 74 = .ok (.iconst 0, 1) := by decide +kernel
theorem dX6_leansOf_75 : decode cX6_leansOf 75 = .ok (.iload 4, 2) := by decide +kernel
theorem dX6_leansOf_77 : decode cX6_leansOf 77 = .ok (.isub, 1) := by decide +kernel
theorem dX6_leansOf_78 : decode cX6_leansOf 78 = .ok (.goto 5, 3) := by decide +kernel
theorem dX6_leansOf_81 : decode cX6_leansOf 81 = .ok (.iload 4, 2) := by decide +kernel
theorem dX6_leansOf_83 : decode cX6_leansOf 83 = .ok (.ireturn, 1) := by decide +kernel
theorem dX6_fitsOf_0 : decode cX6_fitsOf 0 = .ok (.aload_n 0, 1) := by decide +kernel
theorem dX6_fitsOf_1 : decode cX6_fitsOf 1 = .ok (.bipush 82, 2) := by decide +kernel
theorem dX6_fitsOf_3 : decode cX6_fitsOf 3 = .ok (.bipush 8, 2) := by decide +kernel
theorem dX6_fitsOf_5 : decode cX6_fitsOf 5 = .ok (.invokevirtual 54, 3) := by decide +kernel
theorem dX6_fitsOf_8 : decode cX6_fitsOf 8 = .ok (.ifCond .eq 10, 3) := by decide +kernel
theorem dX6_fitsOf_11 : decode cX6_fitsOf 11 = .ok (.iload_n 1, 1) := by decide +kernel
theorem dX6_fitsOf_12 : decode cX6_fitsOf 12 = .ok (.aload_n 0, 1) := by decide +kernel
theorem dX6_fitsOf_13 : decode cX6_fitsOf 13 = .ok (.getfield 27, 3) := by decide +kernel
theorem dX6_fitsOf_16 : decode cX6_fitsOf 16 = .ok (.iand, 1) := by decide +kernel
theorem dX6_fitsOf_17 : decode cX6_fitsOf 17 = .ok (.ireturn, 1) := by decide +kernel
theorem dX6_fitsOf_18 : decode cX6_fitsOf 18 = .ok (.aload_n 0, 1) := by decide +kernel
theorem dX6_fitsOf_19 : decode cX6_fitsOf 19 = .ok (.bipush 51, 2) := by decide +kernel
theorem dX6_fitsOf_21 : decode cX6_fitsOf 21 = .ok (.iconst 5, 1) := by decide +kernel
theorem dX6_fitsOf_22 : decode cX6_fitsOf 22 = .ok (.invokevirtual 54, 3) := by decide +kernel
theorem dX6_fitsOf_25 : decode cX6_fitsOf 25 = .ok (.istore_n 2, 1) := by decide +kernel
theorem dX6_fitsOf_26 : decode cX6_fitsOf 26 = .ok (.aload_n 0, 1) := by decide +kernel
theorem dX6_fitsOf_27 : decode cX6_fitsOf 27 = .ok (.getfield 14, 3) := by decide +kernel
theorem dX6_fitsOf_30 : decode cX6_fitsOf 30 = .ok (.bipush 12, 2) := by decide +kernel
theorem dX6_fitsOf_32 : decode cX6_fitsOf 32 = .ok (.invokevirtual 51, 3) := by decide +kernel
theorem dX6_fitsOf_35 : decode cX6_fitsOf 35 = .ok (.aload_n 0, 1) := by decide +kernel
theorem dX6_fitsOf_36 : decode cX6_fitsOf 36 = .ok (.getfield 27, 3) := by decide +kernel
theorem dX6_fitsOf_39 : decode cX6_fitsOf 39 = .ok (.aload_n 0, 1) := by decide +kernel
theorem dX6_fitsOf_40 : decode cX6_fitsOf 40 = .ok (.getfield 24, 3) := by decide +kernel
theorem dX6_fitsOf_43 : decode cX6_fitsOf 43 = .ok (.isub, 1) := by decide +kernel
theorem dX6_fitsOf_44 : decode cX6_fitsOf 44 = .ok (.istore_n 3, 1) := by decide +kernel
theorem dX6_fitsOf_45 : decode cX6_fitsOf 45 = .ok (.iload_n 3, 1) := by decide +kernel
theorem dX6_fitsOf_46 : decode cX6_fitsOf 46 = .ok (.ifCond .ne 10, 3) := by decide +kernel
theorem dX6_fitsOf_49 : decode cX6_fitsOf 49 = .ok (.aload_n 0, 1) := by decide +kernel
theorem dX6_fitsOf_50 : decode cX6_fitsOf 50 = .ok (.iconst 1, 1) := by decide +kernel
theorem dX6_fitsOf_51 : decode cX6_fitsOf 51 = .ok (.putfield 30, 3) := by decide +kernel
theorem dX6_fitsOf_54 : decode cX6_fitsOf 54 = .ok (.iconst 0, 1) := by decide +kernel
theorem dX6_fitsOf_55 : decode cX6_fitsOf 55 = .ok (.ireturn, 1) := by decide +kernel
theorem dX6_fitsOf_56 : decode cX6_fitsOf 56 = .ok (.iload_n 2, 1) := by decide +kernel
theorem dX6_fitsOf_57 : decode cX6_fitsOf 57 = .ok (.ifCond .eq 9, 3) := by decide +kernel
theorem dX6_fitsOf_60 : decode cX6_fitsOf 60 = .ok (.iload_n 1, 1) := by decide +kernel
theorem dX6_fitsOf_61 : decode cX6_fitsOf 61 = .ok (.iconst 1, 1) := by decide +kernel
theorem dX6_fitsOf_62 : decode cX6_fitsOf 62 = .ok (.iadd, 1) := by decide +kernel
theorem dX6_fitsOf_63 : decode cX6_fitsOf 63 = .ok (.goto 4, 3) := by decide +kernel
theorem dX6_fitsOf_66 : decode cX6_fitsOf 66 = .ok (.iload_n 1, 1) := by decide +kernel
theorem dX6_fitsOf_67 : decode cX6_fitsOf 67 = .ok (.iload_n 3, 1) := by decide +kernel
theorem dX6_fitsOf_68 : decode cX6_fitsOf 68 = .ok (.idiv, 1) := by decide +kernel
theorem dX6_fitsOf_69 : decode cX6_fitsOf 69 = .ok (.ireturn, 1) := by decide +kernel
theorem dX6_tellsOf_0 : decode cX6_tellsOf 0 = .ok (.aload_n 0, 1) := by decide +kernel
theorem dX6_tellsOf_1 : decode cX6_tellsOf 1 = .ok (.bipush 83, 2) := by decide +kernel
theorem dX6_tellsOf_3 : decode cX6_tellsOf 3 = .ok (.bipush 8, 2) := by decide +kernel
theorem dX6_tellsOf_5 : decode cX6_tellsOf 5 = .ok (.invokevirtual 54, 3) := by decide +kernel
theorem dX6_tellsOf_8 : decode cX6_tellsOf 8 = .ok (.ifCond .eq 15, 3) := by decide +kernel
theorem dX6_tellsOf_11 : decode cX6_tellsOf 11 = .ok (.aload_n 0, 1) := by decide +kernel
theorem dX6_tellsOf_12 : decode cX6_tellsOf 12 = .ok (.iload_n 1, 1) := by decide +kernel
theorem dX6_tellsOf_13 : decode cX6_tellsOf 13 = .ok (.invokevirtual 34, 3) := by decide +kernel
theorem dX6_tellsOf_16 : decode cX6_tellsOf 16 = .ok (.aload_n 0, 1) := by decide +kernel
theorem dX6_tellsOf_17 : decode cX6_tellsOf 17 = .ok (.iload_n 1, 1) := by decide +kernel
theorem dX6_tellsOf_18 : decode cX6_tellsOf 18 = .ok (.invokevirtual 38, 3) := by decide +kernel
theorem dX6_tellsOf_21 : decode cX6_tellsOf 21 = .ok (.iadd, 1) := by decide +kernel
theorem dX6_tellsOf_22 : decode cX6_tellsOf 22 = .ok (.ireturn, 1) := by decide +kernel
theorem dX6_tellsOf_23 : decode cX6_tellsOf 23 = .ok (.aload_n 0, 1) := by decide +kernel
theorem dX6_tellsOf_24 : decode cX6_tellsOf 24 = .ok (.bipush 61, 2) := by decide +kernel
theorem dX6_tellsOf_26 : decode cX6_tellsOf 26 = .ok (.bipush 6, 2) := by decide +kernel
theorem dX6_tellsOf_28 : decode cX6_tellsOf 28 = .ok (.invokevirtual 54, 3) := by decide +kernel
theorem dX6_tellsOf_31 : decode cX6_tellsOf 31 = .ok (.istore_n 2, 1) := by decide +kernel
theorem dX6_tellsOf_32 : decode cX6_tellsOf 32 = .ok (.aload_n 0, 1) := by decide +kernel
theorem dX6_tellsOf_33 : decode cX6_tellsOf 33 = .ok (.bipush 40, 2) := by decide +kernel
theorem dX6_tellsOf_35 : decode cX6_tellsOf 35 = .ok (.iconst 4, 1) := by decide +kernel
theorem dX6_tellsOf_36 : decode cX6_tellsOf 36 = .ok (.invokevirtual 54, 3) := by decide +kernel
theorem dX6_tellsOf_39 : decode cX6_tellsOf 39 = .ok (.istore_n 3, 1) := by decide +kernel
theorem dX6_tellsOf_40 : decode cX6_tellsOf 40 = .ok (.aload_n 0, 1) := by decide +kernel
theorem dX6_tellsOf_41 : decode cX6_tellsOf 41 = .ok (.getfield 14, 3) := by decide +kernel
theorem dX6_tellsOf_44 : decode cX6_tellsOf 44 = .ok (.bipush 13, 2) := by decide +kernel
theorem dX6_tellsOf_46 : decode cX6_tellsOf 46 = .ok (.invokevirtual 51, 3) := by decide +kernel
theorem dX6_tellsOf_49 : decode cX6_tellsOf 49 = .ok (.aload_n 0, 1) := by decide +kernel
theorem dX6_tellsOf_50 : decode cX6_tellsOf 50 = .ok (.iload_n 1, 1) := by decide +kernel
theorem dX6_tellsOf_51 : decode cX6_tellsOf 51 = .ok (.invokevirtual 38, 3) := by decide +kernel
theorem dX6_tellsOf_54 : decode cX6_tellsOf 54 = .ok (.aload_n 0, 1) := by decide +kernel
theorem dX6_tellsOf_55 : decode cX6_tellsOf 55 = .ok (.getfield 24, 3) := by decide +kernel
theorem dX6_tellsOf_58 : decode cX6_tellsOf 58 = .ok (.ixor, 1) := by decide +kernel
theorem dX6_tellsOf_59 : decode cX6_tellsOf 59 = .ok (.istore 4, 2) := by decide +kernel
theorem dX6_tellsOf_61 : decode cX6_tellsOf 61 = .ok (.iload_n 3, 1) := by decide +kernel
theorem dX6_tellsOf_62 : decode cX6_tellsOf 62 = .ok (.ifCond .eq 9, 3) := by decide +kernel
theorem dX6_tellsOf_65 : decode cX6_tellsOf 65 = .ok (.iload 4, 2) := by decide +kernel
theorem dX6_tellsOf_67 : decode cX6_tellsOf 67 = .ok (.iconst 3, 1) := by decide +kernel
theorem dX6_tellsOf_68 : decode cX6_tellsOf 68 = .ok (.imul, 1) := by decide +kernel
theorem dX6_tellsOf_69 : decode cX6_tellsOf 69 = .ok (.istore 4, 2) := by decide +kernel
theorem dX6_tellsOf_71 : decode cX6_tellsOf 71 = .ok (.iload_n 2, 1) := by decide +kernel
theorem dX6_tellsOf_72 : decode cX6_tellsOf 72 = .ok (.ifCond .eq 17, 3) := by decide +kernel
theorem dX6_tellsOf_75 : decode cX6_tellsOf 75 = .ok (.iload 4, 2) := by decide +kernel
theorem dX6_tellsOf_77 : decode cX6_tellsOf 77 = .ok (.aload_n 0, 1) := by decide +kernel
theorem dX6_tellsOf_78 : decode cX6_tellsOf 78 = .ok (.aload_n 0, 1) := by decide +kernel
theorem dX6_tellsOf_79 : decode cX6_tellsOf 79 = .ok (.getfield 24, 3) := by decide +kernel
theorem dX6_tellsOf_82 : decode cX6_tellsOf 82 = .ok (.invokevirtual 41, 3) := by decide +kernel
theorem dX6_tellsOf_85 : decode cX6_tellsOf 85 = .ok (.iadd, 1) := by decide +kernel
theorem dX6_tellsOf_86 : decode cX6_tellsOf 86 = .ok (.goto 5, 3) := by decide +kernel
theorem dX6_tellsOf_89 : decode cX6_tellsOf 89 = .ok (.iload 4, 2) := by decide +kernel
theorem dX6_tellsOf_91 : decode cX6_tellsOf 91 = .ok (.ireturn, 1) := by decide +kernel
theorem dX7_init_0 : decode cX7_init 0 = .ok (.aload_n 0, 1) := by decide +kernel
theorem dX7_init_1 : decode cX7_init 1 = .ok (.invokespecial 3, 3) := by decide +kernel
theorem dX7_init_4 : decode cX7_init 4 = .ok (.aload_n 0, 1) := by decide +kernel
theorem dX7_init_5 : decode cX7_init 5 = .ok (.new 9, 3) := by decide +kernel
theorem dX7_init_8 : decode cX7_init 8 = .ok (.dup, 1) := by decide +kernel
theorem dX7_init_9 : decode cX7_init 9 = .ok (.iconst 3, 1) := by decide +kernel
theorem dX7_init_10 : decode cX7_init 10 = .ok (.bipush 6, 2) := by decide +kernel
theorem dX7_init_12 : decode cX7_init 12 = .ok (.invokespecial 11, 3) := by decide +kernel
theorem dX7_init_15 : decode cX7_init 15 = .ok (.putfield 14, 3) := by decide +kernel
theorem dX7_init_18 : decode cX7_init 18 = .ok (.aload_n 0, 1) := by decide +kernel
theorem dX7_init_19 : decode cX7_init 19 = .ok (.new 9, 3) := by decide +kernel
theorem dX7_init_22 : decode cX7_init 22 = .ok (.dup, 1) := by decide +kernel
theorem dX7_init_23 : decode cX7_init 23 = .ok (.iconst 3, 1) := by decide +kernel
theorem dX7_init_24 : decode cX7_init 24 = .ok (.sipush 200, 3) := by decide +kernel
theorem dX7_init_27 : decode cX7_init 27 = .ok (.invokespecial 11, 3) := by decide +kernel
theorem dX7_init_30 : decode cX7_init 30 = .ok (.putfield 20, 3) := by decide +kernel
theorem dX7_init_33 : decode cX7_init 33 = .ok (.aload_n 0, 1) := by decide +kernel
theorem dX7_init_34 : decode cX7_init 34 = .ok (.new 23, 3) := by decide +kernel
theorem dX7_init_37 : decode cX7_init 37 = .ok (.dup, 1) := by decide +kernel
theorem dX7_init_38 : decode cX7_init 38 = .ok (.sipush 200, 3) := by decide +kernel
theorem dX7_init_41 : decode cX7_init 41 = .ok (.invokespecial 25, 3) := by decide +kernel
theorem dX7_init_44 : decode cX7_init 44 = .ok (.putfield 28, 3) := by decide +kernel
theorem dX7_init_47 : decode cX7_init 47 = .ok (.aload_n 0, 1) := by decide +kernel
theorem dX7_init_48 : decode cX7_init 48 = .ok (.aconst_null, 1) := by decide +kernel
theorem dX7_init_49 : decode cX7_init 49 = .ok (.putfield 32, 3) := by decide +kernel
theorem dX7_init_52 : decode cX7_init 52 = .ok (.aload_n 0, 1) := by decide +kernel
theorem dX7_init_53 : decode cX7_init 53 = .ok (.iconst 0, 1) := by decide +kernel
theorem dX7_init_54 : decode cX7_init 54 = .ok (.putfield 35, 3) := by decide +kernel
theorem dX7_init_57 : decode cX7_init 57 = .ok (.aload_n 0, 1) := by decide +kernel
theorem dX7_init_58 : decode cX7_init 58 = .ok (.iconst 0, 1) := by decide +kernel
theorem dX7_init_59 : decode cX7_init 59 = .ok (.putfield 39, 3) := by decide +kernel
theorem dX7_init_62 : decode cX7_init 62 = .ok (.aload_n 0, 1) := by decide +kernel
theorem dX7_init_63 : decode cX7_init 63 = .ok (.iconst 0, 1) := by decide +kernel
theorem dX7_init_64 : decode cX7_init 64 = .ok (.putfield 42, 3) := by decide +kernel
theorem dX7_init_67 : decode cX7_init 67 = .ok (.aload_n 0, 1) := by decide +kernel
theorem dX7_init_68 : decode cX7_init 68 = .ok (.iconst 0, 1) := by decide +kernel
theorem dX7_init_69 : decode cX7_init 69 = .ok (.putfield 45, 3) := by decide +kernel
theorem dX7_init_72 : decode cX7_init 72 = .ok (.aload_n 0, 1) := by decide +kernel
theorem dX7_init_73 : decode cX7_init 73 = .ok (.iconst 0, 1) := by decide +kernel
theorem dX7_init_74 : decode cX7_init 74 = .ok (.putfield 48, 3) := by decide +kernel
theorem dX7_init_77 : decode cX7_init 77 = .ok (.aload_n 0, 1) := by decide +kernel
theorem dX7_init_78 : decode cX7_init 78 = .ok (.iconst 0, 1) := by decide +kernel
theorem dX7_init_79 : decode cX7_init 79 = .ok (.putfield 51, 3) := by decide +kernel
theorem dX7_init_82 : decode cX7_init 82 = .ok (.aload_n 0, 1) := by decide +kernel
theorem dX7_init_83 : decode cX7_init 83 = .ok (.iconst 0, 1) := by decide +kernel
theorem dX7_init_84 : decode cX7_init 84 = .ok (.putfield 54, 3) := by decide +kernel
theorem dX7_init_87 : decode cX7_init 87 = .ok (.return_, 1) := by decide +kernel
theorem dX7_readTape_0 : decode cX7_readTape 0 = .ok (.aload_n 0, 1) := by decide +kernel
theorem dX7_readTape_1 : decode cX7_readTape 1 = .ok (.aload_n 1, 1) := by decide +kernel
theorem dX7_readTape_2 : decode cX7_readTape 2 = .ok (.putfield 32, 3) := by decide +kernel
theorem dX7_readTape_5 : decode cX7_readTape 5 = .ok (.aload_n 0, 1) := by decide +kernel
theorem dX7_readTape_6 : decode cX7_readTape 6 = .ok (.getfield 14, 3) := by decide +kernel
theorem dX7_readTape_9 : decode cX7_readTape 9 = .ok (.invokevirtual 57, 3) := by decide +kernel
theorem dX7_readTape_12 : decode cX7_readTape 12 = .ok (.aload_n 0, 1) := by decide +kernel
theorem dX7_readTape_13 : decode cX7_readTape 13 = .ok (.getfield 20, 3) := by decide +kernel
theorem dX7_readTape_16 : decode cX7_readTape 16 = .ok (.invokevirtual 57, 3) := by decide +kernel
theorem dX7_readTape_19 : decode cX7_readTape 19 = .ok (.aload_n 0, 1) := by decide +kernel
theorem dX7_readTape_20 : decode cX7_readTape 20 = .ok (.getfield 28, 3) := by decide +kernel
theorem dX7_readTape_23 : decode cX7_readTape 23 = .ok (.invokevirtual 60, 3) := by decide +kernel
theorem dX7_readTape_26 : decode cX7_readTape 26 = .ok (.aload_n 0, 1) := by decide +kernel
theorem dX7_readTape_27 : decode cX7_readTape 27 = .ok (.iconst 0, 1) := by decide +kernel
theorem dX7_readTape_28 : decode cX7_readTape 28 = .ok (.putfield 39, 3) := by decide +kernel
theorem dX7_readTape_31 : decode cX7_readTape 31 = .ok (.aload_n 0, 1) := by decide +kernel
theorem dX7_readTape_32 : decode cX7_readTape 32 = .ok (.iconst 0, 1) := by decide +kernel
theorem dX7_readTape_33 : decode cX7_readTape 33 = .ok (.putfield 48, 3) := by decide +kernel
theorem dX7_readTape_36 : decode cX7_readTape 36 = .ok (.aload_n 0, 1) := by decide +kernel
theorem dX7_readTape_37 : decode cX7_readTape 37 = .ok (.iconst 0, 1) := by decide +kernel
theorem dX7_readTape_38 : decode cX7_readTape 38 = .ok (.putfield 54, 3) := by decide +kernel
theorem dX7_readTape_41 : decode cX7_readTape 41 = .ok (.aload_n 0, 1) := by decide +kernel
theorem dX7_readTape_42 : decode cX7_readTape 42 = .ok (.iconst 0, 1) := by decide +kernel
theorem dX7_readTape_43 : decode cX7_readTape 43 = .ok (.putfield 45, 3) := by decide +kernel
theorem dX7_readTape_46 : decode cX7_readTape 46 = .ok (.iconst 0, 1) := by decide +kernel
theorem dX7_readTape_47 : decode cX7_readTape 47 = .ok (.istore_n 2, 1) := by decide +kernel
theorem dX7_readTape_48 : decode cX7_readTape 48 = .ok (.iload_n 2, 1) := by decide +kernel
theorem dX7_readTape_49 : decode cX7_readTape 49 = .ok (.sipush 200, 3) := by decide +kernel
theorem dX7_readTape_52 : decode cX7_readTape 52 = .ok (.if_icmp .gt 48, 3) := by decide +kernel
theorem dX7_readTape_55 : decode cX7_readTape 55 = .ok (.aload_n 0, 1) := by decide +kernel
theorem dX7_readTape_56 : decode cX7_readTape 56 = .ok (.invokevirtual 61, 3) := by decide +kernel
theorem dX7_readTape_59 : decode cX7_readTape 59 = .ok (.istore_n 3, 1) := by decide +kernel
theorem dX7_readTape_60 : decode cX7_readTape 60 = .ok (.iload_n 3, 1) := by decide +kernel
theorem dX7_readTape_61 : decode cX7_readTape 61 = .ok (.ifCond .ne 20, 3) := by decide +kernel
theorem dX7_readTape_64 : decode cX7_readTape 64 = .ok (.aload_n 0, 1) := by decide +kernel
theorem dX7_readTape_65 : decode cX7_readTape 65 = .ok (.getfield 45, 3) := by decide +kernel
theorem dX7_readTape_68 : decode cX7_readTape 68 = .ok (.ifCond .ne 8, 3) := by decide +kernel
theorem dX7_readTape_71 : decode cX7_readTape 71 = .ok (.bipush (-3), 2) := by decide +kernel
theorem dX7_readTape_73 : decode cX7_readTape 73 = .ok (.goto 7, 3) := by decide +kernel
theorem dX7_readTape_76 : decode cX7_readTape 76 = .ok (.aload_n 0, 1) := by decide +kernel
theorem dX7_readTape_77 : decode cX7_readTape 77 = .ok (.getfield 35, 3) := by decide +kernel
theorem dX7_readTape_80 : decode cX7_readTape 80 = .ok (.ireturn, 1) := by decide +kernel
theorem dX7_readTape_81 : decode cX7_readTape 81 = .ok (.aload_n 0, 1) := by decide +kernel
theorem dX7_readTape_82 : decode cX7_readTape 82 = .ok (.iload_n 3, 1) := by decide +kernel
theorem dX7_readTape_83 : decode cX7_readTape 83 = .ok (.invokevirtual 65, 3) := by decide +kernel
theorem dX7_readTape_86 : decode cX7_readTape 86 = .ok (.ifCond .ne 8, 3) := by decide +kernel
theorem dX7_readTape_89 : decode cX7_readTape 89 = .ok (.aload_n 0, 1) := by decide +kernel
theorem dX7_readTape_90 : decode cX7_readTape 90 = .ok (.getfield 35, 3) := by decide +kernel
theorem dX7_readTape_93 : decode cX7_readTape 93 = .ok (.ireturn, 1) := by decide +kernel
theorem dX7_readTape_94 : decode cX7_readTape 94 = .ok (.iinc 2 1, 3) := by decide +kernel
theorem dX7_readTape_97 : decode cX7_readTape 97 = .ok (.goto (-49), 3) := by decide +kernel
theorem dX7_readTape_100 : decode cX7_readTape 100 = .ok (.aload_n 0, 1) := by decide +kernel
theorem dX7_readTape_101 : decode cX7_readTape 101 = .ok (.getfield 35, 3) := by decide +kernel
theorem dX7_readTape_104 : decode cX7_readTape 104 = .ok (.ireturn, 1) := by decide +kernel
theorem dX7_byteAt_0 : decode cX7_byteAt 0 = .ok (.aload_n 0, 1) := by decide +kernel
theorem dX7_byteAt_1 : decode cX7_byteAt 1 = .ok (.getfield 32, 3) := by decide +kernel
theorem dX7_byteAt_4 : decode cX7_byteAt 4 = .ok (.ifnonnull 7, 3) := by decide +kernel
theorem dX7_byteAt_7 : decode cX7_byteAt 7 = .ok (.iconst 0, 1) := by decide +kernel
theorem dX7_byteAt_8 : decode cX7_byteAt 8 = .ok (.goto 11, 3) := by decide +kernel
theorem dX7_byteAt_11 : decode cX7_byteAt 11 = .ok (.aload_n 0, 1) := by decide +kernel
theorem dX7_byteAt_12 : decode cX7_byteAt 12 = .ok (.getfield 32, 3) := by decide +kernel
theorem dX7_byteAt_15 : decode cX7_byteAt 15 = .ok (.iload_n 1, 1) := by decide +kernel
theorem dX7_byteAt_16 : decode cX7_byteAt 16 = .ok (.invokevirtual 69, 3) := by decide +kernel
theorem dX7_byteAt_19 : decode cX7_byteAt 19 = .ok (.ireturn, 1) := by decide +kernel
theorem dX7_isLetter_0 : decode cX7_isLetter 0 = .ok (.aload_n 0, 1) := by decide +kernel
theorem dX7_isLetter_1 : decode cX7_isLetter 1 = .ok (.iload_n 1, 1) := by decide +kernel
theorem dX7_isLetter_2 : decode cX7_isLetter 2 = .ok (.invokevirtual 73, 3) := by decide +kernel
theorem dX7_isLetter_5 : decode cX7_isLetter 5 = .ok (.bipush 97, 2) := by decide +kernel
theorem dX7_isLetter_7 : decode cX7_isLetter 7 = .ok (.if_icmp .lt 17, 3) := by decide +kernel
theorem dX7_isLetter_10 : decode cX7_isLetter 10 = .ok (.aload_n 0, 1) := by decide +kernel
theorem dX7_isLetter_11 : decode cX7_isLetter 11 = .ok (.iload_n 1, 1) := by decide +kernel
theorem dX7_isLetter_12 : decode cX7_isLetter 12 = .ok (.invokevirtual 73, 3) := by decide +kernel
theorem dX7_isLetter_15 : decode cX7_isLetter 15 = .ok (.bipush 122, 2) := by decide +kernel
theorem dX7_isLetter_17 : decode cX7_isLetter 17 = .ok (.if_icmp .gt 7, 3) := by decide +kernel
theorem dX7_isLetter_20 : decode cX7_isLetter 20 = .ok (.iconst 1, 1) := by decide +kernel
theorem dX7_isLetter_21 : decode cX7_isLetter 21 = .ok (.goto 4, 3) := by decide +kernel
theorem dX7_isLetter_24 : decode cX7_isLetter 24 = .ok (.iconst 0, 1) := by decide +kernel
theorem dX7_isLetter_25 : decode cX7_isLetter 25 = .ok (.ireturn, 1) := by decide +kernel
theorem dX7_isDigit_0 : decode cX7_isDigit 0 = .ok (.aload_n 0, 1) := by decide +kernel
theorem dX7_isDigit_1 : decode cX7_isDigit 1 = .ok (.iload_n 1, 1) := by decide +kernel
theorem dX7_isDigit_2 : decode cX7_isDigit 2 = .ok (.invokevirtual 73, 3) := by decide +kernel
theorem dX7_isDigit_5 : decode cX7_isDigit 5 = .ok (.bipush 48, 2) := by decide +kernel
theorem dX7_isDigit_7 : decode cX7_isDigit 7 = .ok (.if_icmp .lt 17, 3) := by decide +kernel
theorem dX7_isDigit_10 : decode cX7_isDigit 10 = .ok (.aload_n 0, 1) := by decide +kernel
theorem dX7_isDigit_11 : decode cX7_isDigit 11 = .ok (.iload_n 1, 1) := by decide +kernel
theorem dX7_isDigit_12 : decode cX7_isDigit 12 = .ok (.invokevirtual 73, 3) := by decide +kernel
theorem dX7_isDigit_15 : decode cX7_isDigit 15 = .ok (.bipush 57, 2) := by decide +kernel
theorem dX7_isDigit_17 : decode cX7_isDigit 17 = .ok (.if_icmp .gt 7, 3) := by decide +kernel
theorem dX7_isDigit_20 : decode cX7_isDigit 20 = .ok (.iconst 1, 1) := by decide +kernel
theorem dX7_isDigit_21 : decode cX7_isDigit 21 = .ok (.goto 4, 3) := by decide +kernel
theorem dX7_isDigit_24 : decode cX7_isDigit 24 = .ok (.iconst 0, 1) := by decide +kernel
theorem dX7_isDigit_25 : decode cX7_isDigit 25 = .ok (.ireturn, 1) := by decide +kernel
theorem dX7_nextToken_0 : decode cX7_nextToken 0 = .ok (.aload_n 0, 1) := by decide +kernel
theorem dX7_nextToken_1 : decode cX7_nextToken 1 = .ok (.getfield 32, 3) := by decide +kernel
theorem dX7_nextToken_4 : decode cX7_nextToken 4 = .ok (.ifnonnull 7, 3) := by decide +kernel
theorem dX7_nextToken_7 : decode cX7_nextToken 7 = .ok (.iconst 0, 1) := by decide +kernel
theorem dX7_nextToken_8 : decode cX7_nextToken 8 = .ok (.goto 10, 3) := by decide +kernel
theorem dX7_nextToken_11 : decode cX7_nextToken 11 = .ok (.aload_n 0, 1) := by decide +kernel
theorem dX7_nextToken_12 : decode cX7_nextToken 12 = .ok (.getfield 32, 3) := by decide +kernel
theorem dX7_nextToken_15 : decode cX7_nextToken 15 = .ok (.getfield 76, 3) := by decide +kernel
theorem dX7_nextToken_18 : decode cX7_nextToken 18 = .ok (.istore_n 1, 1) := by decide +kernel
theorem dX7_nextToken_19 : decode cX7_nextToken 19 = .ok (.aload_n 0, 1) := by decide +kernel
theorem dX7_nextToken_20 : decode cX7_nextToken 20 = .ok (.aload_n 0, 1) := by decide +kernel
theorem dX7_nextToken_21 : decode cX7_nextToken 21 = .ok (.getfield 39, 3) := by decide +kernel
theorem dX7_nextToken_24 : decode cX7_nextToken 24 = .ok (.putfield 35, 3) := by decide +kernel
theorem dX7_nextToken_27 : decode cX7_nextToken 27 = .ok (.aload_n 0, 1) := by decide +kernel
theorem dX7_nextToken_28 : decode cX7_nextToken 28 = .ok (.getfield 35, 3) := by decide +kernel
theorem dX7_nextToken_31 : decode cX7_nextToken 31 = .ok (.iload_n 1, 1) := by decide +kernel
theorem dX7_nextToken_32 : decode cX7_nextToken 32 = .ok (.if_icmp .ge 29, 3) := by decide +kernel
theorem dX7_nextToken_35 : decode cX7_nextToken 35 = .ok (.aload_n 0, 1) := by decide +kernel
theorem dX7_nextToken_36 : decode cX7_nextToken 36 = .ok (.aload_n 0, 1) := by decide +kernel
theorem dX7_nextToken_37 : decode cX7_nextToken 37 = .ok (.getfield 35, 3) := by decide +kernel
theorem dX7_nextToken_40 : decode cX7_nextToken 40 = .ok (.invokevirtual 73, 3) := by decide +kernel
theorem dX7_nextToken_43 : decode cX7_nextToken 43 = .ok (.bipush 32, 2) := by decide +kernel
theorem dX7_nextToken_45 : decode cX7_nextToken 45 = .ok (.if_icmp .ne 16, 3) := by decide +kernel
theorem dX7_nextToken_48 : decode cX7_nextToken 48 = .ok (.aload_n 0, 1) := by decide +kernel
theorem dX7_nextToken_49 : decode cX7_nextToken 49 = .ok (.dup, 1) := by decide +kernel
theorem dX7_nextToken_50 : decode cX7_nextToken 50 = .ok (.getfield 35, 3) := by decide +kernel
theorem dX7_nextToken_53 : decode cX7_nextToken 53 = .ok (.iconst 1, 1) := by decide +kernel
theorem dX7_nextToken_54 : decode cX7_nextToken 54 = .ok (.iadd, 1) := by decide +kernel
theorem dX7_nextToken_55 : decode cX7_nextToken 55 = .ok (.putfield 35, 3) := by decide +kernel
theorem dX7_nextToken_58 : decode cX7_nextToken 58 = .ok (.goto (-31), 3) := by decide +kernel
theorem dX7_nextToken_61 : decode cX7_nextToken 61 = .ok (.aload_n 0, 1) := by decide +kernel
theorem dX7_nextToken_62 : decode cX7_nextToken 62 = .ok (.aload_n 0, 1) := by decide +kernel
theorem dX7_nextToken_63 : decode cX7_nextToken 63 = .ok (.getfield 35, 3) := by decide +kernel
theorem dX7_nextToken_66 : decode cX7_nextToken 66 = .ok (.putfield 39, 3) := by decide +kernel
theorem dX7_nextToken_69 : decode cX7_nextToken 69 = .ok (.aload_n 0, 1) := by decide +kernel
theorem dX7_nextToken_70 : decode cX7_nextToken 70 = .ok (.getfield 35, 3) := by decide +kernel
theorem dX7_nextToken_73 : decode cX7_nextToken 73 = .ok (.iload_n 1, 1) := by decide +kernel
theorem dX7_nextToken_74 : decode cX7_nextToken 74 = .ok (.if_icmp .lt 5, 3) := by decide +kernel
theorem dX7_nextToken_77 : decode cX7_nextToken 77 = .ok (.iconst 0, 1) := by decide +kernel
theorem dX7_nextToken_78 : decode cX7_nextToken 78 = .ok (.ireturn, 1) := by decide +kernel
theorem dX7_nextToken_79 : decode cX7_nextToken 79 = .ok (.aload_n 0, 1) := by decide +kernel
theorem dX7_nextToken_80 : decode cX7_nextToken 80 = .ok (.aload_n 0, 1) := by decide +kernel
theorem dX7_nextToken_81 : decode cX7_nextToken 81 = .ok (.getfield 35, 3) := by decide +kernel
theorem dX7_nextToken_84 : decode cX7_nextToken 84 = .ok (.invokevirtual 79, 3) := by decide +kernel
theorem dX7_nextToken_87 : decode cX7_nextToken 87 = .ok (.ifCond .eq 40, 3) := by decide +kernel
theorem dX7_nextToken_90 : decode cX7_nextToken 90 = .ok (.aload_n 0, 1) := by decide +kernel
theorem dX7_nextToken_91 : decode cX7_nextToken 91 = .ok (.getfield 39, 3) := by decide +kernel
theorem dX7_nextToken_94 : decode cX7_nextToken 94 = .ok (.iload_n 1, 1) := by decide +kernel
theorem dX7_nextToken_95 : decode cX7_nextToken 95 = .ok (.if_icmp .ge 27, 3) := by decide +kernel
theorem dX7_nextToken_98 : decode cX7_nextToken 98 = .ok (.aload_n 0, 1) := by decide +kernel
theorem dX7_nextToken_99 : decode cX7_nextToken 99 = .ok (.aload_n 0, 1) := by decide +kernel
theorem dX7_nextToken_100 : decode cX7_nextToken 100 = .ok (.getfield 39, 3) := by decide +kernel
theorem dX7_nextToken_103 : decode cX7_nextToken 103 = .ok (.invokevirtual 79, 3) := by decide +kernel
theorem dX7_nextToken_106 : decode cX7_nextToken 106 = .ok (.ifCond .eq 16, 3) := by decide +kernel
theorem dX7_nextToken_109 : decode cX7_nextToken 109 = .ok (.aload_n 0, 1) := by decide +kernel
theorem dX7_nextToken_110 : decode cX7_nextToken 110 = .ok (.dup, 1) := by decide +kernel
theorem dX7_nextToken_111 : decode cX7_nextToken 111 = .ok (.getfield 39, 3) := by decide +kernel
theorem dX7_nextToken_114 : decode cX7_nextToken 114 = .ok (.iconst 1, 1) := by decide +kernel
theorem dX7_nextToken_115 : decode cX7_nextToken 115 = .ok (.iadd, 1) := by decide +kernel
theorem dX7_nextToken_116 : decode cX7_nextToken 116 = .ok (.putfield 39, 3) := by decide +kernel
theorem dX7_nextToken_119 : decode cX7_nextToken 119 = .ok (.goto (-29), 3) := by decide +kernel
theorem dX7_nextToken_122 : decode cX7_nextToken 122 = .ok (.aload_n 0, 1) := by decide +kernel
theorem dX7_nextToken_123 : decode cX7_nextToken 123 = .ok (.invokevirtual 82, 3) := by decide +kernel
theorem dX7_nextToken_126 : decode cX7_nextToken 126 = .ok (.ireturn, 1) := by decide +kernel
theorem dX7_nextToken_127 : decode cX7_nextToken 127 = .ok (.aload_n 0, 1) := by decide +kernel
theorem dX7_nextToken_128 : decode cX7_nextToken 128 = .ok (.aload_n 0, 1) := by decide +kernel
theorem dX7_nextToken_129 : decode cX7_nextToken 129 = .ok (.getfield 35, 3) := by decide +kernel
theorem dX7_nextToken_132 : decode cX7_nextToken 132 = .ok (.invokevirtual 85, 3) := by decide +kernel
theorem dX7_nextToken_135 : decode cX7_nextToken 135 = .ok (.ifCond .eq 40, 3) := by decide +kernel
theorem dX7_nextToken_138 : decode cX7_nextToken 138 = .ok (.aload_n 0, 1) := by decide +kernel
theorem dX7_nextToken_139 : decode cX7_nextToken 139 = .ok (.getfield 39, 3) := by decide +kernel
theorem dX7_nextToken_142 : decode cX7_nextToken 142 = .ok (.iload_n 1, 1) := by decide +kernel
theorem dX7_nextToken_143 : decode cX7_nextToken 143 = .ok (.if_icmp .ge 27, 3) := by decide +kernel
theorem dX7_nextToken_146 : decode cX7_nextToken 146 = .ok (.aload_n 0, 1) := by decide +kernel
theorem dX7_nextToken_147 : decode cX7_nextToken 147 = .ok (.aload_n 0, 1) := by decide +kernel
theorem dX7_nextToken_148 : decode cX7_nextToken 148 = .ok (.getfield 39, 3) := by decide +kernel
theorem dX7_nextToken_151 : decode cX7_nextToken 151 = .ok (.invokevirtual 85, 3) := by decide +kernel
theorem dX7_nextToken_154 : decode cX7_nextToken 154 = .ok (.ifCond .eq 16, 3) := by decide +kernel
theorem dX7_nextToken_157 : decode cX7_nextToken 157 = .ok (.aload_n 0, 1) := by decide +kernel
theorem dX7_nextToken_158 : decode cX7_nextToken 158 = .ok (.dup, 1) := by decide +kernel
theorem dX7_nextToken_159 : decode cX7_nextToken 159 = .ok (.getfield 39, 3) := by decide +kernel
theorem dX7_nextToken_162 : decode cX7_nextToken 162 = .ok (.iconst 1, 1) := by decide +kernel
theorem dX7_nextToken_163 : decode cX7_nextToken 163 = .ok (.iadd, 1) := by decide +kernel
theorem dX7_nextToken_164 : decode cX7_nextToken 164 = .ok (.putfield 39, 3) := by decide +kernel
theorem dX7_nextToken_167 : decode cX7_nextToken 167 = .ok (.goto (-29), 3) := by decide +kernel
theorem dX7_nextToken_170 : decode cX7_nextToken 170 = .ok (.aload_n 0, 1) := by decide +kernel
theorem dX7_nextToken_171 : decode cX7_nextToken 171 = .ok (.invokevirtual 88, 3) := by decide +kernel
theorem dX7_nextToken_174 : decode cX7_nextToken 174 = .ok (.ireturn, 1) := by decide +kernel
theorem dX7_nextToken_175 : decode cX7_nextToken 175 = .ok (.aload_n 0, 1) := by decide +kernel
theorem dX7_nextToken_176 : decode cX7_nextToken 176 = .ok (.dup, 1) := by decide +kernel
theorem dX7_nextToken_177 : decode cX7_nextToken 177 = .ok (.getfield 39, 3) := by decide +kernel
theorem dX7_nextToken_180 : decode cX7_nextToken 180 = .ok (.iconst 1, 1) := by decide +kernel
theorem dX7_nextToken_181 : decode cX7_nextToken 181 = .ok (.iadd, 1) := by decide +kernel
theorem dX7_nextToken_182 : decode cX7_nextToken 182 = .ok (.putfield 39, 3) := by decide +kernel
theorem dX7_nextToken_185 : decode cX7_nextToken 185 = .ok (.aload_n 0, 1) := by decide +kernel
theorem dX7_nextToken_186 : decode cX7_nextToken 186 = .ok (.invokevirtual 91, 3) := by decide +kernel
theorem dX7_nextToken_189 : decode cX7_nextToken 189 = .ok (.ireturn, 1) := by decide +kernel
theorem dX7_wordToken_0 : decode cX7_wordToken 0 = .ok (.aload_n 0, 1) := by decide +kernel
theorem dX7_wordToken_1 : decode cX7_wordToken 1 = .ok (.ldc 94, 2) := by decide +kernel
theorem dX7_wordToken_3 : decode cX7_wordToken 3 = .ok (.invokevirtual 96, 3) := by decide +kernel
theorem dX7_wordToken_6 : decode cX7_wordToken 6 = .ok (.ifCond .eq 5, 3) := by decide +kernel
theorem dX7_wordToken_9 : decode cX7_wordToken 9 = .ok (.iconst 2, 1) := by decide +kernel
theorem dX7_wordToken_10 : decode cX7_wordToken 10 = .ok (.ireturn, 1) := by decide +kernel
theorem dX7_wordToken_11 : decode cX7_wordToken 11 = .ok (.aload_n 0, 1) := by decide +kernel
theorem dX7_wordToken_12 : decode cX7_wordToken 12 = .ok (.ldc 100, 2) := by decide +kernel
theorem dX7_wordToken_14 : decode cX7_wordToken 14 = .ok (.invokevirtual 96, 3) := by decide +kernel
theorem dX7_wordToken_17 : decode cX7_wordToken 17 = .ok (.ifCond .eq 5, 3) := by decide +kernel
theorem dX7_wordToken_20 : decode cX7_wordToken 20 = .ok (.iconst 3, 1) := by decide +kernel
theorem dX7_wordToken_21 : decode cX7_wordToken 21 = .ok (.ireturn, 1) := by decide +kernel
theorem dX7_wordToken_22 : decode cX7_wordToken 22 = .ok (.aload_n 0, 1) := by decide +kernel
theorem dX7_wordToken_23 : decode cX7_wordToken 23 = .ok (.ldc 102, 2) := by decide +kernel
theorem dX7_wordToken_25 : decode cX7_wordToken 25 = .ok (.invokevirtual 96, 3) := by decide +kernel
theorem dX7_wordToken_28 : decode cX7_wordToken 28 = .ok (.ifCond .eq 5, 3) := by decide +kernel
theorem dX7_wordToken_31 : decode cX7_wordToken 31 = .ok (.iconst 4, 1) := by decide +kernel
theorem dX7_wordToken_32 : decode cX7_wordToken 32 = .ok (.ireturn, 1) := by decide +kernel
theorem dX7_wordToken_33 : decode cX7_wordToken 33 = .ok (.aload_n 0, 1) := by decide +kernel
theorem dX7_wordToken_34 : decode cX7_wordToken 34 = .ok (.ldc 104, 2) := by decide +kernel
theorem dX7_wordToken_36 : decode cX7_wordToken 36 = .ok (.invokevirtual 96, 3) := by decide +kernel
theorem dX7_wordToken_39 : decode cX7_wordToken 39 = .ok (.ifCond .eq 5, 3) := by decide +kernel
theorem dX7_wordToken_42 : decode cX7_wordToken 42 = .ok (.iconst 5, 1) := by decide +kernel
theorem dX7_wordToken_43 : decode cX7_wordToken 43 = .ok (.ireturn, 1) := by decide +kernel
theorem dX7_wordToken_44 : decode cX7_wordToken 44 = .ok (.aload_n 0, 1) := by decide +kernel
theorem dX7_wordToken_45 : decode cX7_wordToken 45 = .ok (.ldc 106, 2) := by decide +kernel
theorem dX7_wordToken_47 : decode cX7_wordToken 47 = .ok (.invokevirtual 96, 3) := by decide +kernel
theorem dX7_wordToken_50 : decode cX7_wordToken 50 = .ok (.ifCond .eq 6, 3) := by decide +kernel
theorem dX7_wordToken_53 : decode cX7_wordToken 53 = .ok (.bipush 6, 2) := by decide +kernel
theorem dX7_wordToken_55 : decode cX7_wordToken 55 = .ok (.ireturn, 1) := by decide +kernel
theorem dX7_wordToken_56 : decode cX7_wordToken 56 = .ok (.aload_n 0, 1) := by decide +kernel
theorem dX7_wordToken_57 : decode cX7_wordToken 57 = .ok (.ldc 108, 2) := by decide +kernel
theorem dX7_wordToken_59 : decode cX7_wordToken 59 = .ok (.invokevirtual 96, 3) := by decide +kernel
theorem dX7_wordToken_62 : decode cX7_wordToken 62 = .ok (.ifCond .eq 6, 3) := by decide +kernel
theorem dX7_wordToken_65 : decode cX7_wordToken 65 = .ok (.bipush 7, 2) := by decide +kernel
theorem dX7_wordToken_67 : decode cX7_wordToken 67 = .ok (.ireturn, 1) := by decide +kernel
theorem dX7_wordToken_68 : decode cX7_wordToken 68 = .ok (.aload_n 0, 1) := by decide +kernel
theorem dX7_wordToken_69 : decode cX7_wordToken 69 = .ok (.ldc 110, 2) := by decide +kernel
theorem dX7_wordToken_71 : decode cX7_wordToken 71 = .ok (.invokevirtual 96, 3) := by decide +kernel
theorem dX7_wordToken_74 : decode cX7_wordToken 74 = .ok (.ifCond .eq 6, 3) := by decide +kernel
theorem dX7_wordToken_77 : decode cX7_wordToken 77 = .ok (.bipush 8, 2) := by decide +kernel
theorem dX7_wordToken_79 : decode cX7_wordToken 79 = .ok (.ireturn, 1) := by decide +kernel
theorem dX7_wordToken_80 : decode cX7_wordToken 80 = .ok (.aload_n 0, 1) := by decide +kernel
theorem dX7_wordToken_81 : decode cX7_wordToken 81 = .ok (.ldc 112, 2) := by decide +kernel
theorem dX7_wordToken_83 : decode cX7_wordToken 83 = .ok (.invokevirtual 96, 3) := by decide +kernel
theorem dX7_wordToken_86 : decode cX7_wordToken 86 = .ok (.ifCond .eq 6, 3) := by decide +kernel
theorem dX7_wordToken_89 : decode cX7_wordToken 89 = .ok (.bipush 9, 2) := by decide +kernel
theorem dX7_wordToken_91 : decode cX7_wordToken 91 = .ok (.ireturn, 1) := by decide +kernel
theorem dX7_wordToken_92 : decode cX7_wordToken 92 = .ok (.aload_n 0, 1) := by decide +kernel
theorem dX7_wordToken_93 : decode cX7_wordToken 93 = .ok (.ldc 114, 2) := by decide +kernel
theorem dX7_wordToken_95 : decode cX7_wordToken 95 = .ok (.invokevirtual 96, 3) := by decide +kernel
theorem dX7_wordToken_98 : decode cX7_wordToken 98 = .ok (.ifCond .eq 6, 3) := by decide +kernel
theorem dX7_wordToken_101 : decode cX7_wordToken 101 = .ok (.bipush 10, 2) := by decide +kernel
theorem dX7_wordToken_103 : decode cX7_wordToken 103 = .ok (.ireturn, 1) := by decide +kernel
theorem dX7_wordToken_104 : decode cX7_wordToken 104 = .ok (.aload_n 0, 1) := by decide +kernel
theorem dX7_wordToken_105 : decode cX7_wordToken 105 = .ok (.ldc 116, 2) := by decide +kernel
theorem dX7_wordToken_107 : decode cX7_wordToken 107 = .ok (.invokevirtual 96, 3) := by decide +kernel
theorem dX7_wordToken_110 : decode cX7_wordToken 110 = .ok (.ifCond .eq 6, 3) := by decide +kernel
theorem dX7_wordToken_113 : decode cX7_wordToken 113 = .ok (.bipush 11, 2) := by decide +kernel
theorem dX7_wordToken_115 : decode cX7_wordToken 115 = .ok (.ireturn, 1) := by decide +kernel
theorem dX7_wordToken_116 : decode cX7_wordToken 116 = .ok (.aload_n 0, 1) := by decide +kernel
theorem dX7_wordToken_117 : decode cX7_wordToken 117 = .ok (.ldc 118, 2) := by decide +kernel
theorem dX7_wordToken_119 : decode cX7_wordToken 119 = .ok (.invokevirtual 96, 3) := by decide +kernel
theorem dX7_wordToken_122 : decode cX7_wordToken 122 = .ok (.ifCond .eq 6, 3) := by decide +kernel
theorem dX7_wordToken_125 : decode cX7_wordToken 125 = .ok (.bipush 12, 2) := by decide +kernel
theorem dX7_wordToken_127 : decode cX7_wordToken 127 = .ok (.ireturn, 1) := by decide +kernel
theorem dX7_wordToken_128 : decode cX7_wordToken 128 = .ok (.aload_n 0, 1) := by decide +kernel
theorem dX7_wordToken_129 : decode cX7_wordToken 129 = .ok (.ldc 120, 2) := by decide +kernel
theorem dX7_wordToken_131 : decode cX7_wordToken 131 = .ok (.invokevirtual 96, 3) := by decide +kernel
theorem dX7_wordToken_134 : decode cX7_wordToken 134 = .ok (.ifCond .eq 6, 3) := by decide +kernel
theorem dX7_wordToken_137 : decode cX7_wordToken 137 = .ok (.bipush 13, 2) := by decide +kernel
theorem dX7_wordToken_139 : decode cX7_wordToken 139 = .ok (.ireturn, 1) := by decide +kernel
theorem dX7_wordToken_140 : decode cX7_wordToken 140 = .ok (.bipush 20, 2) := by decide +kernel
theorem dX7_wordToken_142 : decode cX7_wordToken 142 = .ok (.ireturn, 1) := by decide +kernel
theorem dX7_isWord_0 : decode cX7_isWord 0 = .ok (.aload_n 1, 1) := by decide +kernel
theorem dX7_isWord_1 : decode cX7_isWord 1 = .ok (.invokevirtual 122, 3) := by decide +kernel
theorem dX7_isWord_4 : decode cX7_isWord 4 = .ok (.aload_n 0, 1) := by decide +kernel
theorem dX7_isWord_5 : decode cX7_isWord 5 = .ok (.getfield 39, 3) := by decide +kernel
theorem dX7_isWord_8 : decode cX7_isWord 8 = .ok (.aload_n 0, 1) := by decide +kernel
theorem dX7_isWord_9 : decode cX7_isWord 9 = .ok (.getfield 35, 3) := by decide +kernel
theorem dX7_isWord_12 : decode cX7_isWord 12 = .ok (.isub, 1) := by decide +kernel
theorem dX7_isWord_13 : decode cX7_isWord 13 = .ok (.if_icmp .eq 5, 3) := by decide +kernel
theorem dX7_isWord_16 : decode cX7_isWord 16 = .ok (.iconst 0, 1) := by decide +kernel
theorem dX7_isWord_17 : decode cX7_isWord 17 = .ok (.ireturn, 1) := by decide +kernel
theorem dX7_isWord_18 : decode cX7_isWord 18 = .ok (.iconst 0, 1) := by decide +kernel
theorem dX7_isWord_19 : decode cX7_isWord 19 = .ok (.istore_n 2, 1) := by decide +kernel
theorem dX7_isWord_20 : decode cX7_isWord 20 = .ok (.iload_n 2, 1) := by decide +kernel
theorem dX7_isWord_21 : decode cX7_isWord 21 = .ok (.aload_n 1, 1) := by decide +kernel
theorem dX7_isWord_22 : decode cX7_isWord 22 = .ok (.invokevirtual 122, 3) := by decide +kernel
theorem dX7_isWord_25 : decode cX7_isWord 25 = .ok (.if_icmp .ge 29, 3) := by decide +kernel
theorem dX7_isWord_28 : decode cX7_isWord 28 = .ok (.aload_n 1, 1) := by decide +kernel
theorem dX7_isWord_29 : decode cX7_isWord 29 = .ok (.iload_n 2, 1) := by decide +kernel
theorem dX7_isWord_30 : decode cX7_isWord 30 = .ok (.invokevirtual 127, 3) := by decide +kernel
theorem dX7_isWord_33 : decode cX7_isWord 33 = .ok (.aload_n 0, 1) := by decide +kernel
theorem dX7_isWord_34 : decode cX7_isWord 34 = .ok (.aload_n 0, 1) := by decide +kernel
theorem dX7_isWord_35 : decode cX7_isWord 35 = .ok (.getfield 35, 3) := by decide +kernel
theorem dX7_isWord_38 : decode cX7_isWord 38 = .ok (.iload_n 2, 1) := by decide +kernel
theorem dX7_isWord_39 : decode cX7_isWord 39 = .ok (.iadd, 1) := by decide +kernel
theorem dX7_isWord_40 : decode cX7_isWord 40 = .ok (.invokevirtual 73, 3) := by decide +kernel
theorem dX7_isWord_43 : decode cX7_isWord 43 = .ok (.if_icmp .eq 5, 3) := by decide +kernel
theorem dX7_isWord_46 : decode cX7_isWord 46 = .ok (.iconst 0, 1) := by decide +kernel
theorem dX7_isWord_47 : decode cX7_isWord 47 = .ok (.ireturn, 1) := by decide +kernel
theorem dX7_isWord_48 : decode cX7_isWord 48 = .ok (.iinc 2 1, 3) := by decide +kernel
theorem dX7_isWord_51 : decode cX7_isWord 51 = .ok (.goto (-31), 3) := by decide +kernel
theorem dX7_isWord_54 : decode cX7_isWord 54 = .ok (.iconst 1, 1) := by decide +kernel
theorem dX7_isWord_55 : decode cX7_isWord 55 = .ok (.ireturn, 1) := by decide +kernel
theorem dX7_numberToken_0 : decode cX7_numberToken 0 = .ok (.aload_n 0, 1) := by decide +kernel
theorem dX7_numberToken_1 : decode cX7_numberToken 1 = .ok (.getfield 39, 3) := by decide +kernel
theorem dX7_numberToken_4 : decode cX7_numberToken 4 = .ok (.aload_n 0, 1) := by decide +kernel
theorem dX7_numberToken_5 : decode cX7_numberToken 5 = .ok (.getfield 35, 3) := by decide +kernel
theorem dX7_numberToken_8 : decode cX7_numberToken 8 = .ok (.isub, 1) := by decide +kernel
theorem dX7_numberToken_9 : decode cX7_numberToken 9 = .ok (.iconst 3, 1) := by decide +kernel
theorem dX7_numberToken_10 : decode cX7_numberToken 10 = .ok (.if_icmp .le 6, 3) := by decide +kernel
theorem dX7_numberToken_13 : decode cX7_numberToken 13 = .ok (.bipush 20, 2) := by decide +kernel
theorem dX7_numberToken_15 : decode cX7_numberToken 15 = .ok (.ireturn, 1) := by decide +kernel
theorem dX7_numberToken_16 : decode cX7_numberToken 16 = .ok (.aload_n 0, 1) := by decide +kernel
theorem dX7_numberToken_17 : decode cX7_numberToken 17 = .ok (.iconst 0, 1) := by decide +kernel
theorem dX7_numberToken_18 : decode cX7_numberToken 18 = .ok (.putfield 42, 3) := by decide +kernel
theorem dX7_numberToken_21 : decode cX7_numberToken 21 = .ok (.aload_n 0, 1) := by decide +kernel
theorem dX7_numberToken_22 : decode cX7_numberToken 22 = .ok (.getfield 35, 3) := by decide +kernel
theorem dX7_numberToken_25 : decode cX7_numberToken 25 = .ok (.istore_n 1, 1) := by decide +kernel
theorem dX7_numberToken_26 : decode cX7_numberToken 26 = .ok (.iload_n 1, 1) := by decide +kernel
theorem dX7_numberToken_27 : decode cX7_numberToken 27 = .ok (.aload_n 0, 1) := by decide +kernel
theorem dX7_numberToken_28 : decode cX7_numberToken 28 = .ok (.getfield 39, 3) := by decide +kernel
theorem dX7_numberToken_31 : decode cX7_numberToken 31 = .ok (.if_icmp .ge 29, 3) := by decide +kernel
theorem dX7_numberToken_34 : decode cX7_numberToken 34 = .ok (.aload_n 0, 1) := by decide +kernel
theorem dX7_numberToken_35 : decode cX7_numberToken 35 = .ok (.aload_n 0, 1) := by decide +kernel
theorem dX7_numberToken_36 : decode cX7_numberToken 36 = .ok (.getfield 42, 3) := by decide +kernel
theorem dX7_numberToken_39 : decode cX7_numberToken 39 = .ok (.bipush 10, 2) := by decide +kernel
theorem dX7_numberToken_41 : decode cX7_numberToken 41 = .ok (.imul, 1) := by decide +kernel
theorem dX7_numberToken_42 : decode cX7_numberToken 42 = .ok (.aload_n 0, 1) := by decide +kernel
theorem dX7_numberToken_43 : decode cX7_numberToken 43 = .ok (.iload_n 1, 1) := by decide +kernel
theorem dX7_numberToken_44 : decode cX7_numberToken 44 = .ok (.invokevirtual 73, 3) := by decide +kernel
theorem dX7_numberToken_47 : decode cX7_numberToken 47 = .ok (.iadd, 1) := by decide +kernel
theorem dX7_numberToken_48 : decode cX7_numberToken 48 = .ok (.bipush 48, 2) := by decide +kernel
theorem dX7_numberToken_50 : decode cX7_numberToken 50 = .ok (.isub, 1) := by decide +kernel
theorem dX7_numberToken_51 : decode cX7_numberToken 51 = .ok (.putfield 42, 3) := by decide +kernel
theorem dX7_numberToken_54 : decode cX7_numberToken 54 = .ok (.iinc 1 1, 3) := by decide +kernel
theorem dX7_numberToken_57 : decode cX7_numberToken 57 = .ok (.goto (-31), 3) := by decide +kernel
theorem dX7_numberToken_60 : decode cX7_numberToken 60 = .ok (.iconst 1, 1) := by decide +kernel
theorem dX7_numberToken_61 : decode cX7_numberToken 61 = .ok (.ireturn, 1) := by decide +kernel
theorem dX7_signToken_0 : decode cX7_signToken 0 = .ok (.aload_n 0, 1) := by decide +kernel
theorem dX7_signToken_1 : decode cX7_signToken 1 = .ok (.aload_n 0, 1) := by decide +kernel
theorem dX7_signToken_2 : decode cX7_signToken 2 = .ok (.getfield 35, 3) := by decide +kernel
theorem dX7_signToken_5 : decode cX7_signToken 5 = .ok (.invokevirtual 73, 3) := by decide +kernel
theorem dX7_signToken_8 : decode cX7_signToken 8 = .ok (.lookupswitch 78 #[(40, 60), (41, 63), (59, 75), (60, 66), (61, 69), (62, 72)], 60) := by decide +kernel
theorem dX7_signToken_68 : decode cX7_signToken 68 = .ok (.bipush 14, 2) := by decide +kernel
theorem dX7_signToken_70 : decode cX7_signToken 70 = .ok (.ireturn, 1) := by decide +kernel
theorem dX7_signToken_71 : decode cX7_signToken 71 = .ok (.bipush 15, 2) := by decide +kernel
theorem dX7_signToken_73 : decode cX7_signToken 73 = .ok (.ireturn, 1) := by decide +kernel
theorem dX7_signToken_74 : decode cX7_signToken 74 = .ok (.bipush 16, 2) := by decide +kernel
theorem dX7_signToken_76 : decode cX7_signToken 76 = .ok (.ireturn, 1) := by decide +kernel
theorem dX7_signToken_77 : decode cX7_signToken 77 = .ok (.bipush 17, 2) := by decide +kernel
theorem dX7_signToken_79 : decode cX7_signToken 79 = .ok (.ireturn, 1) := by decide +kernel
theorem dX7_signToken_80 : decode cX7_signToken 80 = .ok (.bipush 18, 2) := by decide +kernel
theorem dX7_signToken_82 : decode cX7_signToken 82 = .ok (.ireturn, 1) := by decide +kernel
theorem dX7_signToken_83 : decode cX7_signToken 83 = .ok (.bipush 19, 2) := by decide +kernel
theorem dX7_signToken_85 : decode cX7_signToken 85 = .ok (.ireturn, 1) := by decide +kernel
theorem dX7_signToken_86 : decode cX7_signToken 86 = .ok (.bipush 20, 2) := by decide +kernel
theorem dX7_signToken_88 : decode cX7_signToken 88 = .ok (.ireturn, 1) := by decide +kernel
theorem dX7_isAccepted_0 : decode cX7_isAccepted 0 = .ok (.aload_n 0, 1) := by decide +kernel
theorem dX7_isAccepted_1 : decode cX7_isAccepted 1 = .ok (.getfield 45, 3) := by decide +kernel
theorem dX7_isAccepted_4 : decode cX7_isAccepted 4 = .ok (.tableswitch 96 0 4 #[36, 42, 64, 84, 90], 36) := by decide +kernel
theorem dX7_isAccepted_40 : decode cX7_isAccepted 40 = .ok (.aload_n 0, 1) := by decide +kernel
theorem dX7_isAccepted_41 : decode cX7_isAccepted 41 = .ok (.iload_n 1, 1) := by decide +kernel
theorem dX7_isAccepted_42 : decode cX7_isAccepted 42 = .ok (.invokevirtual 131, 3) := by decide +kernel
theorem dX7_isAccepted_45 : decode cX7_isAccepted 45 = .ok (.ireturn, 1) := by decide +kernel
theorem dX7_isAccepted_46 : decode cX7_isAccepted 46 = .ok (.aload_n 0, 1) := by decide +kernel
theorem dX7_isAccepted_47 : decode cX7_isAccepted 47 = .ok (.iload_n 1, 1) := by decide +kernel
theorem dX7_isAccepted_48 : decode cX7_isAccepted 48 = .ok (.invokevirtual 134, 3) := by decide +kernel
theorem dX7_isAccepted_51 : decode cX7_isAccepted 51 = .ok (.ifCond .ne 11, 3) := by decide +kernel
theorem dX7_isAccepted_54 : decode cX7_isAccepted 54 = .ok (.aload_n 0, 1) := by decide +kernel
theorem dX7_isAccepted_55 : decode cX7_isAccepted 55 = .ok (.iload_n 1, 1) := by decide +kernel
theorem dX7_isAccepted_56 : decode cX7_isAccepted 56 = .ok (.invokevirtual 137, 3) := by decide +kernel
theorem dX7_isAccepted_59 : decode cX7_isAccepted 59 = .ok (.ifCond .eq 7, 3) := by decide +kernel
theorem dX7_isAccepted_62 : decode cX7_isAccepted 62 = .ok (.iconst 1, 1) := by decide +kernel
theorem dX7_isAccepted_63 : decode cX7_isAccepted 63 = .ok (.goto 4, 3) := by decide +kernel
theorem dX7_isAccepted_66 : decode cX7_isAccepted 66 = .ok (.iconst 0, 1) := by decide +kernel
theorem dX7_isAccepted_67 : decode cX7_isAccepted 67 = .ok (.ireturn, 1) := by decide +kernel
theorem dX7_isAccepted_68 : decode cX7_isAccepted 68 = .ok (.iload_n 1, 1) := by decide +kernel
theorem dX7_isAccepted_69 : decode cX7_isAccepted 69 = .ok (.iconst 1, 1) := by decide +kernel
theorem dX7_isAccepted_70 : decode cX7_isAccepted 70 = .ok (.if_icmp .ne 16, 3) := by decide +kernel
theorem dX7_isAccepted_73 : decode cX7_isAccepted 73 = .ok (.aload_n 0, 1) := by decide +kernel
theorem dX7_isAccepted_74 : decode cX7_isAccepted 74 = .ok (.bipush 8, 2) := by decide +kernel
theorem dX7_isAccepted_76 : decode cX7_isAccepted 76 = .ok (.invokevirtual 140, 3) := by decide +kernel
theorem dX7_isAccepted_79 : decode cX7_isAccepted 79 = .ok (.ifCond .eq 7, 3) := by decide +kernel
theorem dX7_isAccepted_82 : decode cX7_isAccepted 82 = .ok (.iconst 1, 1) := by decide +kernel
theorem dX7_isAccepted_83 : decode cX7_isAccepted 83 = .ok (.goto 4, 3) := by decide +kernel
theorem dX7_isAccepted_86 : decode cX7_isAccepted 86 = .ok (.iconst 0, 1) := by decide +kernel
theorem dX7_isAccepted_87 : decode cX7_isAccepted 87 = .ok (.ireturn, 1) := by decide +kernel
theorem dX7_isAccepted_88 : decode cX7_isAccepted 88 = .ok (.aload_n 0, 1) := by decide +kernel
theorem dX7_isAccepted_89 : decode cX7_isAccepted 89 = .ok (.iload_n 1, 1) := by decide +kernel
theorem dX7_isAccepted_90 : decode cX7_isAccepted 90 = .ok (.invokevirtual 143, 3) := by decide +kernel
theorem dX7_isAccepted_93 : decode cX7_isAccepted 93 = .ok (.ireturn, 1) := by decide +kernel
theorem dX7_isAccepted_94 : decode cX7_isAccepted 94 = .ok (.aload_n 0, 1) := by decide +kernel
theorem dX7_isAccepted_95 : decode cX7_isAccepted 95 = .ok (.iload_n 1, 1) := by decide +kernel
theorem dX7_isAccepted_96 : decode cX7_isAccepted 96 = .ok (.invokevirtual 137, 3) := by decide +kernel
theorem dX7_isAccepted_99 : decode cX7_isAccepted 99 = .ok (.ireturn, 1) := by decide +kernel
theorem dX7_isAccepted_100 : decode cX7_isAccepted 100 = .ok (.aload_n 0, 1) := by decide +kernel
theorem dX7_isAccepted_101 : decode cX7_isAccepted 101 = .ok (.iload_n 1, 1) := by decide +kernel
theorem dX7_isAccepted_102 : decode cX7_isAccepted 102 = .ok (.invokevirtual 146, 3) := by decide +kernel
theorem dX7_isAccepted_105 : decode cX7_isAccepted 105 = .ok (.ireturn, 1) := by decide +kernel
theorem dX7_isClauseBegun_0 : decode cX7_isClauseBegun 0 = .ok (.iload_n 1, 1) := by decide +kernel
theorem dX7_isClauseBegun_1 : decode cX7_isClauseBegun 1 = .ok (.bipush 9, 2) := by decide +kernel
theorem dX7_isClauseBegun_3 : decode cX7_isClauseBegun 3 = .ok (.if_icmp .eq 9, 3) := by decide +kernel
theorem dX7_isClauseBegun_6 : decode cX7_isClauseBegun 6 = .ok (.iload_n 1, 1) := by decide +kernel
theorem dX7_isClauseBegun_7 : decode cX7_isClauseBegun 7 = .ok (.bipush 10, 2) := by decide +kernel
theorem dX7_isClauseBegun_9 : decode cX7_isClauseBegun 9 = .ok (.if_icmp .ne 13, 3) := by decide +kernel
theorem dX7_isClauseBegun_12 : decode cX7_isClauseBegun 12 = .ok (.aload_n 0, 1) := by decide +kernel
theorem dX7_isClauseBegun_13 : decode cX7_isClauseBegun 13 = .ok (.getfield 14, 3) := by decide +kernel
theorem dX7_isClauseBegun_16 : decode cX7_isClauseBegun 16 = .ok (.invokevirtual 149, 3) := by decide +kernel
theorem dX7_isClauseBegun_19 : decode cX7_isClauseBegun 19 = .ok (.ifCond .eq 5, 3) := by decide +kernel
theorem dX7_isClauseBegun_22 : decode cX7_isClauseBegun 22 = .ok (.iconst 0, 1) := by decide +kernel
theorem dX7_isClauseBegun_23 : decode cX7_isClauseBegun 23 = .ok (.ireturn, 1) := by decide +kernel
theorem dX7_isClauseBegun_24 : decode cX7_isClauseBegun 24 = .ok (.aload_n 0, 1) := by decide +kernel
theorem dX7_isClauseBegun_25 : decode cX7_isClauseBegun 25 = .ok (.getfield 14, 3) := by decide +kernel
theorem dX7_isClauseBegun_28 : decode cX7_isClauseBegun 28 = .ok (.invokevirtual 153, 3) := by decide +kernel
theorem dX7_isClauseBegun_31 : decode cX7_isClauseBegun 31 = .ok (.istore_n 2, 1) := by decide +kernel
theorem dX7_isClauseBegun_32 : decode cX7_isClauseBegun 32 = .ok (.aload_n 0, 1) := by decide +kernel
theorem dX7_isClauseBegun_33 : decode cX7_isClauseBegun 33 = .ok (.getfield 14, 3) := by decide +kernel
theorem dX7_isClauseBegun_36 : decode cX7_isClauseBegun 36 = .ok (.iload_n 2, 1) := by decide +kernel
theorem dX7_isClauseBegun_37 : decode cX7_isClauseBegun 37 = .ok (.iconst 0, 1) := by decide +kernel
theorem dX7_isClauseBegun_38 : decode cX7_isClauseBegun 38 = .ok (.iload_n 1, 1) := by decide +kernel
theorem dX7_isClauseBegun_39 : decode cX7_isClauseBegun 39 = .ok (.bipush 9, 2) := by decide +kernel
theorem dX7_isClauseBegun_41 : decode cX7_isClauseBegun 41 = .ok (.if_icmp .ne 7, 3) := by decide +kernel
theorem dX7_isClauseBegun_44 : decode cX7_isClauseBegun 44 = .ok (.iconst 1, 1) := by decide +kernel
theorem dX7_isClauseBegun_45 : decode cX7_isClauseBegun 45 = .ok (.goto 4, 3) := by decide +kernel
theorem dX7_isClauseBegun_48 : decode cX7_isClauseBegun 48 = .ok (.iconst 0, 1) := by decide +kernel
theorem dX7_isClauseBegun_49 : decode cX7_isClauseBegun 49 = .ok (.invokevirtual 156, 3) := by decide +kernel
theorem dX7_isClauseBegun_52 : decode cX7_isClauseBegun 52 = .ok (.aload_n 0, 1) := by decide +kernel
theorem dX7_isClauseBegun_53 : decode cX7_isClauseBegun 53 = .ok (.getfield 14, 3) := by decide +kernel
theorem dX7_isClauseBegun_56 : decode cX7_isClauseBegun 56 = .ok (.iload_n 2, 1) := by decide +kernel
theorem dX7_isClauseBegun_57 : decode cX7_isClauseBegun 57 = .ok (.iconst 1, 1) := by decide +kernel
theorem dX7_isClauseBegun_58 : decode cX7_isClauseBegun 58 = .ok (.aload_n 0, 1) := by decide +kernel
theorem dX7_isClauseBegun_59 : decode cX7_isClauseBegun 59 = .ok (.getfield 20, 3) := by decide +kernel
theorem dX7_isClauseBegun_62 : decode cX7_isClauseBegun 62 = .ok (.getfield 160, 3) := by decide +kernel
theorem dX7_isClauseBegun_65 : decode cX7_isClauseBegun 65 = .ok (.invokevirtual 156, 3) := by decide +kernel
theorem dX7_isClauseBegun_68 : decode cX7_isClauseBegun 68 = .ok (.aload_n 0, 1) := by decide +kernel
theorem dX7_isClauseBegun_69 : decode cX7_isClauseBegun 69 = .ok (.iconst 1, 1) := by decide +kernel
theorem dX7_isClauseBegun_70 : decode cX7_isClauseBegun 70 = .ok (.putfield 45, 3) := by decide +kernel
theorem dX7_isClauseBegun_73 : decode cX7_isClauseBegun 73 = .ok (.iconst 1, 1) := by decide +kernel
theorem dX7_isClauseBegun_74 : decode cX7_isClauseBegun 74 = .ok (.ireturn, 1) := by decide +kernel
theorem dX7_isOneOpened_0 : decode cX7_isOneOpened 0 = .ok (.iload_n 1, 1) := by decide +kernel
theorem dX7_isOneOpened_1 : decode cX7_isOneOpened 1 = .ok (.bipush 13, 2) := by decide +kernel
theorem dX7_isOneOpened_3 : decode cX7_isOneOpened 3 = .ok (.if_icmp .eq 11, 3) := by decide +kernel
theorem dX7_isOneOpened_6 : decode cX7_isOneOpened 6 = .ok (.iload_n 1, 1) := by decide +kernel
theorem dX7_isOneOpened_7 : decode cX7_isOneOpened 7 = .ok (.bipush 14, 2) := by decide +kernel
theorem dX7_isOneOpened_9 : decode cX7_isOneOpened 9 = .ok (.if_icmp .eq 5, 3) := by decide +kernel
theorem dX7_isOneOpened_12 : decode cX7_isOneOpened 12 = .ok (.iconst 0, 1) := by decide +kernel
theorem dX7_isOneOpened_13 : decode cX7_isOneOpened 13 = .ok (.ireturn, 1) := by decide +kernel
theorem dX7_isOneOpened_14 : decode cX7_isOneOpened 14 = .ok (.iload_n 1, 1) := by decide +kernel
theorem dX7_isOneOpened_15 : decode cX7_isOneOpened 15 = .ok (.bipush 14, 2) := by decide +kernel
theorem dX7_isOneOpened_17 : decode cX7_isOneOpened 17 = .ok (.if_icmp .ne 13, 3) := by decide +kernel
theorem dX7_isOneOpened_20 : decode cX7_isOneOpened 20 = .ok (.aload_n 0, 1) := by decide +kernel
theorem dX7_isOneOpened_21 : decode cX7_isOneOpened 21 = .ok (.getfield 48, 3) := by decide +kernel
theorem dX7_isOneOpened_24 : decode cX7_isOneOpened 24 = .ok (.iconst 3, 1) := by decide +kernel
theorem dX7_isOneOpened_25 : decode cX7_isOneOpened 25 = .ok (.if_icmp .lt 5, 3) := by decide +kernel
theorem dX7_isOneOpened_28 : decode cX7_isOneOpened 28 = .ok (.iconst 0, 1) := by decide +kernel
theorem dX7_isOneOpened_29 : decode cX7_isOneOpened 29 = .ok (.ireturn, 1) := by decide +kernel
theorem dX7_isOneOpened_30 : decode cX7_isOneOpened 30 = .ok (.iload_n 1, 1) := by decide +kernel
theorem dX7_isOneOpened_31 : decode cX7_isOneOpened 31 = .ok (.bipush 14, 2) := by decide +kernel
theorem dX7_isOneOpened_33 : decode cX7_isOneOpened 33 = .ok (.if_icmp .ne 13, 3) := by decide +kernel
theorem dX7_isOneOpened_36 : decode cX7_isOneOpened 36 = .ok (.aload_n 0, 1) := by decide +kernel
theorem dX7_isOneOpened_37 : decode cX7_isOneOpened 37 = .ok (.dup, 1) := by decide +kernel
theorem dX7_isOneOpened_38 : decode cX7_isOneOpened 38 = .ok (.getfield 48, 3) := by decide +kernel
theorem dX7_isOneOpened_41 : decode cX7_isOneOpened 41 = .ok (.iconst 1, 1) := by decide +kernel
theorem dX7_isOneOpened_42 : decode cX7_isOneOpened 42 = .ok (.iadd, 1) := by decide +kernel
theorem dX7_isOneOpened_43 : decode cX7_isOneOpened 43 = .ok (.putfield 48, 3) := by decide +kernel
theorem dX7_isOneOpened_46 : decode cX7_isOneOpened 46 = .ok (.aload_n 0, 1) := by decide +kernel
theorem dX7_isOneOpened_47 : decode cX7_isOneOpened 47 = .ok (.getfield 28, 3) := by decide +kernel
theorem dX7_isOneOpened_50 : decode cX7_isOneOpened 50 = .ok (.iload_n 1, 1) := by decide +kernel
theorem dX7_isOneOpened_51 : decode cX7_isOneOpened 51 = .ok (.invokevirtual 161, 3) := by decide +kernel
theorem dX7_isOneOpened_54 : decode cX7_isOneOpened 54 = .ok (.iconst 1, 1) := by decide +kernel
theorem dX7_isOneOpened_55 : decode cX7_isOneOpened 55 = .ok (.ireturn, 1) := by decide +kernel
theorem dX7_isValueBegun_0 : decode cX7_isValueBegun 0 = .ok (.iload_n 1, 1) := by decide +kernel
theorem dX7_isValueBegun_1 : decode cX7_isValueBegun 1 = .ok (.iconst 1, 1) := by decide +kernel
theorem dX7_isValueBegun_2 : decode cX7_isValueBegun 2 = .ok (.if_icmp .lt 9, 3) := by decide +kernel
theorem dX7_isValueBegun_5 : decode cX7_isValueBegun 5 = .ok (.iload_n 1, 1) := by decide +kernel
theorem dX7_isValueBegun_6 : decode cX7_isValueBegun 6 = .ok (.bipush 8, 2) := by decide +kernel
theorem dX7_isValueBegun_8 : decode cX7_isValueBegun 8 = .ok (.if_icmp .le 5, 3) := by decide +kernel
theorem dX7_isValueBegun_11 : decode cX7_isValueBegun 11 = .ok (.iconst 0, 1) := by decide +kernel
theorem dX7_isValueBegun_12 : decode cX7_isValueBegun 12 = .ok (.ireturn, 1) := by decide +kernel
theorem dX7_isValueBegun_13 : decode cX7_isValueBegun 13 = .ok (.iload_n 1, 1) := by decide +kernel
theorem dX7_isValueBegun_14 : decode cX7_isValueBegun 14 = .ok (.bipush 8, 2) := by decide +kernel
theorem dX7_isValueBegun_16 : decode cX7_isValueBegun 16 = .ok (.if_icmp .eq 9, 3) := by decide +kernel
theorem dX7_isValueBegun_19 : decode cX7_isValueBegun 19 = .ok (.aload_n 0, 1) := by decide +kernel
theorem dX7_isValueBegun_20 : decode cX7_isValueBegun 20 = .ok (.iload_n 1, 1) := by decide +kernel
theorem dX7_isValueBegun_21 : decode cX7_isValueBegun 21 = .ok (.invokevirtual 140, 3) := by decide +kernel
theorem dX7_isValueBegun_24 : decode cX7_isValueBegun 24 = .ok (.ireturn, 1) := by decide +kernel
theorem dX7_isValueBegun_25 : decode cX7_isValueBegun 25 = .ok (.aload_n 0, 1) := by decide +kernel
theorem dX7_isValueBegun_26 : decode cX7_isValueBegun 26 = .ok (.iconst 2, 1) := by decide +kernel
theorem dX7_isValueBegun_27 : decode cX7_isValueBegun 27 = .ok (.putfield 45, 3) := by decide +kernel
theorem dX7_isValueBegun_30 : decode cX7_isValueBegun 30 = .ok (.iconst 1, 1) := by decide +kernel
theorem dX7_isValueBegun_31 : decode cX7_isValueBegun 31 = .ok (.ireturn, 1) := by decide +kernel
theorem dX7_isValueTold_0 : decode cX7_isValueTold 0 = .ok (.iload_n 1, 1) := by decide +kernel
theorem dX7_isValueTold_1 : decode cX7_isValueTold 1 = .ok (.sipush 1000, 3) := by decide +kernel
theorem dX7_isValueTold_4 : decode cX7_isValueTold 4 = .ok (.imul, 1) := by decide +kernel
theorem dX7_isValueTold_5 : decode cX7_isValueTold 5 = .ok (.aload_n 0, 1) := by decide +kernel
theorem dX7_isValueTold_6 : decode cX7_isValueTold 6 = .ok (.getfield 42, 3) := by decide +kernel
theorem dX7_isValueTold_9 : decode cX7_isValueTold 9 = .ok (.iadd, 1) := by decide +kernel
theorem dX7_isValueTold_10 : decode cX7_isValueTold 10 = .ok (.istore_n 2, 1) := by decide +kernel
theorem dX7_isValueTold_11 : decode cX7_isValueTold 11 = .ok (.aload_n 0, 1) := by decide +kernel
theorem dX7_isValueTold_12 : decode cX7_isValueTold 12 = .ok (.getfield 54, 3) := by decide +kernel
theorem dX7_isValueTold_15 : decode cX7_isValueTold 15 = .ok (.ifCond .ne 15, 3) := by decide +kernel
theorem dX7_isValueTold_18 : decode cX7_isValueTold 18 = .ok (.aload_n 0, 1) := by decide +kernel
theorem dX7_isValueTold_19 : decode cX7_isValueTold 19 = .ok (.iload_n 2, 1) := by decide +kernel
theorem dX7_isValueTold_20 : decode cX7_isValueTold 20 = .ok (.putfield 51, 3) := by decide +kernel
theorem dX7_isValueTold_23 : decode cX7_isValueTold 23 = .ok (.aload_n 0, 1) := by decide +kernel
theorem dX7_isValueTold_24 : decode cX7_isValueTold 24 = .ok (.iconst 3, 1) := by decide +kernel
theorem dX7_isValueTold_25 : decode cX7_isValueTold 25 = .ok (.putfield 45, 3) := by decide +kernel
theorem dX7_isValueTold_28 : decode cX7_isValueTold 28 = .ok (.iconst 1, 1) := by decide +kernel
theorem dX7_isValueTold_29 : decode cX7_isValueTold 29 = .ok (.ireturn, 1) := by decide +kernel
theorem dX7_isValueTold_30 : decode cX7_isValueTold 30 = .ok (.aload_n 0, 1) := by decide +kernel
theorem dX7_isValueTold_31 : decode cX7_isValueTold 31 = .ok (.aload_n 0, 1) := by decide +kernel
theorem dX7_isValueTold_32 : decode cX7_isValueTold 32 = .ok (.getfield 54, 3) := by decide +kernel
theorem dX7_isValueTold_35 : decode cX7_isValueTold 35 = .ok (.aload_n 0, 1) := by decide +kernel
theorem dX7_isValueTold_36 : decode cX7_isValueTold 36 = .ok (.getfield 51, 3) := by decide +kernel
theorem dX7_isValueTold_39 : decode cX7_isValueTold 39 = .ok (.iload_n 2, 1) := by decide +kernel
theorem dX7_isValueTold_40 : decode cX7_isValueTold 40 = .ok (.invokevirtual 164, 3) := by decide +kernel
theorem dX7_isValueTold_43 : decode cX7_isValueTold 43 = .ok (.aload_n 0, 1) := by decide +kernel
theorem dX7_isValueTold_44 : decode cX7_isValueTold 44 = .ok (.iconst 0, 1) := by decide +kernel
theorem dX7_isValueTold_45 : decode cX7_isValueTold 45 = .ok (.putfield 54, 3) := by decide +kernel
theorem dX7_isValueTold_48 : decode cX7_isValueTold 48 = .ok (.aload_n 0, 1) := by decide +kernel
theorem dX7_isValueTold_49 : decode cX7_isValueTold 49 = .ok (.iconst 5, 1) := by decide +kernel
theorem dX7_isValueTold_50 : decode cX7_isValueTold 50 = .ok (.putfield 45, 3) := by decide +kernel
theorem dX7_isValueTold_53 : decode cX7_isValueTold 53 = .ok (.iconst 1, 1) := by decide +kernel
theorem dX7_isValueTold_54 : decode cX7_isValueTold 54 = .ok (.ireturn, 1) := by decide +kernel
theorem dX7_isSignTold_0 : decode cX7_isSignTold 0 = .ok (.iload_n 1, 1) := by decide +kernel
theorem dX7_isSignTold_1 : decode cX7_isSignTold 1 = .ok (.bipush 16, 2) := by decide +kernel
theorem dX7_isSignTold_3 : decode cX7_isSignTold 3 = .ok (.if_icmp .lt 9, 3) := by decide +kernel
theorem dX7_isSignTold_6 : decode cX7_isSignTold 6 = .ok (.iload_n 1, 1) := by decide +kernel
theorem dX7_isSignTold_7 : decode cX7_isSignTold 7 = .ok (.bipush 18, 2) := by decide +kernel
theorem dX7_isSignTold_9 : decode cX7_isSignTold 9 = .ok (.if_icmp .le 5, 3) := by decide +kernel
theorem dX7_isSignTold_12 : decode cX7_isSignTold 12 = .ok (.iconst 0, 1) := by decide +kernel
theorem dX7_isSignTold_13 : decode cX7_isSignTold 13 = .ok (.ireturn, 1) := by decide +kernel
theorem dX7_isSignTold_14 : decode cX7_isSignTold 14 = .ok (.aload_n 0, 1) := by decide +kernel
theorem dX7_isSignTold_15 : decode cX7_isSignTold 15 = .ok (.iload_n 1, 1) := by decide +kernel
theorem dX7_isSignTold_16 : decode cX7_isSignTold 16 = .ok (.putfield 54, 3) := by decide +kernel
theorem dX7_isSignTold_19 : decode cX7_isSignTold 19 = .ok (.aload_n 0, 1) := by decide +kernel
theorem dX7_isSignTold_20 : decode cX7_isSignTold 20 = .ok (.iconst 4, 1) := by decide +kernel
theorem dX7_isSignTold_21 : decode cX7_isSignTold 21 = .ok (.putfield 45, 3) := by decide +kernel
theorem dX7_isSignTold_24 : decode cX7_isSignTold 24 = .ok (.iconst 1, 1) := by decide +kernel
theorem dX7_isSignTold_25 : decode cX7_isSignTold 25 = .ok (.ireturn, 1) := by decide +kernel
theorem dX7_isOneFollowed_0 : decode cX7_isOneFollowed 0 = .ok (.iload_n 1, 1) := by decide +kernel
theorem dX7_isOneFollowed_1 : decode cX7_isOneFollowed 1 = .ok (.bipush 12, 2) := by decide +kernel
theorem dX7_isOneFollowed_3 : decode cX7_isOneFollowed 3 = .ok (.if_icmp .eq 9, 3) := by decide +kernel
theorem dX7_isOneFollowed_6 : decode cX7_isOneFollowed 6 = .ok (.iload_n 1, 1) := by decide +kernel
theorem dX7_isOneFollowed_7 : decode cX7_isOneFollowed 7 = .ok (.bipush 11, 2) := by decide +kernel
theorem dX7_isOneFollowed_9 : decode cX7_isOneFollowed 9 = .ok (.if_icmp .ne 23, 3) := by decide +kernel
theorem dX7_isOneFollowed_12 : decode cX7_isOneFollowed 12 = .ok (.aload_n 0, 1) := by decide +kernel
theorem dX7_isOneFollowed_13 : decode cX7_isOneFollowed 13 = .ok (.iload_n 1, 1) := by decide +kernel
theorem dX7_isOneFollowed_14 : decode cX7_isOneFollowed 14 = .ok (.invokevirtual 167, 3) := by decide +kernel
theorem dX7_isOneFollowed_17 : decode cX7_isOneFollowed 17 = .ok (.aload_n 0, 1) := by decide +kernel
theorem dX7_isOneFollowed_18 : decode cX7_isOneFollowed 18 = .ok (.getfield 28, 3) := by decide +kernel
theorem dX7_isOneFollowed_21 : decode cX7_isOneFollowed 21 = .ok (.iload_n 1, 1) := by decide +kernel
theorem dX7_isOneFollowed_22 : decode cX7_isOneFollowed 22 = .ok (.invokevirtual 161, 3) := by decide +kernel
theorem dX7_isOneFollowed_25 : decode cX7_isOneFollowed 25 = .ok (.aload_n 0, 1) := by decide +kernel
theorem dX7_isOneFollowed_26 : decode cX7_isOneFollowed 26 = .ok (.iconst 1, 1) := by decide +kernel
theorem dX7_isOneFollowed_27 : decode cX7_isOneFollowed 27 = .ok (.putfield 45, 3) := by decide +kernel
theorem dX7_isOneFollowed_30 : decode cX7_isOneFollowed 30 = .ok (.iconst 1, 1) := by decide +kernel
theorem dX7_isOneFollowed_31 : decode cX7_isOneFollowed 31 = .ok (.ireturn, 1) := by decide +kernel
theorem dX7_isOneFollowed_32 : decode cX7_isOneFollowed 32 = .ok (.iload_n 1, 1) := by decide +kernel
theorem dX7_isOneFollowed_33 : decode cX7_isOneFollowed 33 = .ok (.bipush 15, 2) := by decide +kernel
theorem dX7_isOneFollowed_35 : decode cX7_isOneFollowed 35 = .ok (.if_icmp .ne 36, 3) := by decide +kernel
theorem dX7_isOneFollowed_38 : decode cX7_isOneFollowed 38 = .ok (.aload_n 0, 1) := by decide +kernel
theorem dX7_isOneFollowed_39 : decode cX7_isOneFollowed 39 = .ok (.getfield 48, 3) := by decide +kernel
theorem dX7_isOneFollowed_42 : decode cX7_isOneFollowed 42 = .ok (.ifCond .le 29, 3) := by decide +kernel
theorem dX7_isOneFollowed_45 : decode cX7_isOneFollowed 45 = .ok (.aload_n 0, 1) := by decide +kernel
theorem dX7_isOneFollowed_46 : decode cX7_isOneFollowed 46 = .ok (.bipush 11, 2) := by decide +kernel
theorem dX7_isOneFollowed_48 : decode cX7_isOneFollowed 48 = .ok (.invokevirtual 167, 3) := by decide +kernel
theorem dX7_isOneFollowed_51 : decode cX7_isOneFollowed 51 = .ok (.aload_n 0, 1) := by decide +kernel
theorem dX7_isOneFollowed_52 : decode cX7_isOneFollowed 52 = .ok (.getfield 28, 3) := by decide +kernel
theorem dX7_isOneFollowed_55 : decode cX7_isOneFollowed 55 = .ok (.invokevirtual 170, 3) := by decide +kernel
theorem dX7_isOneFollowed_58 : decode cX7_isOneFollowed 58 = .ok (.pop, 1) := by decide +kernel
theorem dX7_isOneFollowed_59 : decode cX7_isOneFollowed 59 = .ok (.aload_n 0, 1) := by decide +kernel
theorem dX7_isOneFollowed_60 : decode cX7_isOneFollowed 60 = .ok (.dup, 1) := by decide +kernel
theorem dX7_isOneFollowed_61 : decode cX7_isOneFollowed 61 = .ok (.getfield 48, 3) := by decide +kernel
theorem dX7_isOneFollowed_64 : decode cX7_isOneFollowed 64 = .ok (.iconst 1, 1) := by decide +kernel
theorem dX7_isOneFollowed_65 : decode cX7_isOneFollowed 65 = .ok (.isub, 1) := by decide +kernel
theorem dX7_isOneFollowed_66 : decode cX7_isOneFollowed 66 = .ok (.putfield 48, 3) := by decide +kernel
theorem dX7_isOneFollowed_69 : decode cX7_isOneFollowed 69 = .ok (.iconst 1, 1) := by decide +kernel
theorem dX7_isOneFollowed_70 : decode cX7_isOneFollowed 70 = .ok (.ireturn, 1) := by decide +kernel
theorem dX7_isOneFollowed_71 : decode cX7_isOneFollowed 71 = .ok (.iload_n 1, 1) := by decide +kernel
theorem dX7_isOneFollowed_72 : decode cX7_isOneFollowed 72 = .ok (.bipush 19, 2) := by decide +kernel
theorem dX7_isOneFollowed_74 : decode cX7_isOneFollowed 74 = .ok (.if_icmp .ne 10, 3) := by decide +kernel
theorem dX7_isOneFollowed_77 : decode cX7_isOneFollowed 77 = .ok (.aload_n 0, 1) := by decide +kernel
theorem dX7_isOneFollowed_78 : decode cX7_isOneFollowed 78 = .ok (.getfield 48, 3) := by decide +kernel
theorem dX7_isOneFollowed_81 : decode cX7_isOneFollowed 81 = .ok (.ifCond .le 5, 3) := by decide +kernel
theorem dX7_isOneFollowed_84 : decode cX7_isOneFollowed 84 = .ok (.iconst 0, 1) := by decide +kernel
theorem dX7_isOneFollowed_85 : decode cX7_isOneFollowed 85 = .ok (.ireturn, 1) := by decide +kernel
theorem dX7_isOneFollowed_86 : decode cX7_isOneFollowed 86 = .ok (.aload_n 0, 1) := by decide +kernel
theorem dX7_isOneFollowed_87 : decode cX7_isOneFollowed 87 = .ok (.bipush 11, 2) := by decide +kernel
theorem dX7_isOneFollowed_89 : decode cX7_isOneFollowed 89 = .ok (.invokevirtual 167, 3) := by decide +kernel
theorem dX7_isOneFollowed_92 : decode cX7_isOneFollowed 92 = .ok (.aload_n 0, 1) := by decide +kernel
theorem dX7_isOneFollowed_93 : decode cX7_isOneFollowed 93 = .ok (.getfield 14, 3) := by decide +kernel
theorem dX7_isOneFollowed_96 : decode cX7_isOneFollowed 96 = .ok (.aload_n 0, 1) := by decide +kernel
theorem dX7_isOneFollowed_97 : decode cX7_isOneFollowed 97 = .ok (.getfield 14, 3) := by decide +kernel
theorem dX7_isOneFollowed_100 : decode cX7_isOneFollowed 100 = .ok (.getfield 160, 3) := by decide +kernel
theorem dX7_isOneFollowed_103 : decode cX7_isOneFollowed 103 = .ok (.iconst 1, 1) := by decide +kernel
theorem dX7_isOneFollowed_104 : decode cX7_isOneFollowed 104 = .ok (.isub, 1) := by decide +kernel
theorem dX7_isOneFollowed_105 : decode cX7_isOneFollowed 105 = .ok (.iconst 2, 1) := by decide +kernel
theorem dX7_isOneFollowed_106 : decode cX7_isOneFollowed 106 = .ok (.aload_n 0, 1) := by decide +kernel
theorem dX7_isOneFollowed_107 : decode cX7_isOneFollowed 107 = .ok (.getfield 20, 3) := by decide +kernel
theorem dX7_isOneFollowed_110 : decode cX7_isOneFollowed 110 = .ok (.getfield 160, 3) := by decide +kernel
theorem dX7_isOneFollowed_113 : decode cX7_isOneFollowed 113 = .ok (.invokevirtual 156, 3) := by decide +kernel
theorem dX7_isOneFollowed_116 : decode cX7_isOneFollowed 116 = .ok (.aload_n 0, 1) := by decide +kernel
theorem dX7_isOneFollowed_117 : decode cX7_isOneFollowed 117 = .ok (.iconst 0, 1) := by decide +kernel
theorem dX7_isOneFollowed_118 : decode cX7_isOneFollowed 118 = .ok (.putfield 45, 3) := by decide +kernel
theorem dX7_isOneFollowed_121 : decode cX7_isOneFollowed 121 = .ok (.iconst 1, 1) := by decide +kernel
theorem dX7_isOneFollowed_122 : decode cX7_isOneFollowed 122 = .ok (.ireturn, 1) := by decide +kernel
theorem dX7_settle_0 : decode cX7_settle 0 = .ok (.iconst 0, 1) := by decide +kernel
theorem dX7_settle_1 : decode cX7_settle 1 = .ok (.istore_n 2, 1) := by decide +kernel
theorem dX7_settle_2 : decode cX7_settle 2 = .ok (.iload_n 2, 1) := by decide +kernel
theorem dX7_settle_3 : decode cX7_settle 3 = .ok (.sipush 200, 3) := by decide +kernel
theorem dX7_settle_6 : decode cX7_settle 6 = .ok (.if_icmp .ge 42, 3) := by decide +kernel
theorem dX7_settle_9 : decode cX7_settle 9 = .ok (.aload_n 0, 1) := by decide +kernel
theorem dX7_settle_10 : decode cX7_settle 10 = .ok (.getfield 28, 3) := by decide +kernel
theorem dX7_settle_13 : decode cX7_settle 13 = .ok (.invokevirtual 173, 3) := by decide +kernel
theorem dX7_settle_16 : decode cX7_settle 16 = .ok (.istore_n 3, 1) := by decide +kernel
theorem dX7_settle_17 : decode cX7_settle 17 = .ok (.iload_n 3, 1) := by decide +kernel
theorem dX7_settle_18 : decode cX7_settle 18 = .ok (.bipush 14, 2) := by decide +kernel
theorem dX7_settle_20 : decode cX7_settle 20 = .ok (.if_icmp .eq 8, 3) := by decide +kernel
theorem dX7_settle_23 : decode cX7_settle 23 = .ok (.iload_n 3, 1) := by decide +kernel
theorem dX7_settle_24 : decode cX7_settle 24 = .ok (.iload_n 1, 1) := by decide +kernel
theorem dX7_settle_25 : decode cX7_settle 25 = .ok (.if_icmp .ge 4, 3) := by decide +kernel
theorem dX7_settle_28 : decode cX7_settle 28 = .ok (.return_, 1) := by decide +kernel
theorem dX7_settle_29 : decode cX7_settle 29 = .ok (.aload_n 0, 1) := by decide +kernel
theorem dX7_settle_30 : decode cX7_settle 30 = .ok (.aload_n 0, 1) := by decide +kernel
theorem dX7_settle_31 : decode cX7_settle 31 = .ok (.getfield 28, 3) := by decide +kernel
theorem dX7_settle_34 : decode cX7_settle 34 = .ok (.invokevirtual 170, 3) := by decide +kernel
theorem dX7_settle_37 : decode cX7_settle 37 = .ok (.iconst 0, 1) := by decide +kernel
theorem dX7_settle_38 : decode cX7_settle 38 = .ok (.iconst 0, 1) := by decide +kernel
theorem dX7_settle_39 : decode cX7_settle 39 = .ok (.invokevirtual 164, 3) := by decide +kernel
theorem dX7_settle_42 : decode cX7_settle 42 = .ok (.iinc 2 1, 3) := by decide +kernel
theorem dX7_settle_45 : decode cX7_settle 45 = .ok (.goto (-43), 3) := by decide +kernel
theorem dX7_settle_48 : decode cX7_settle 48 = .ok (.return_, 1) := by decide +kernel
theorem dX7_addStep_0 : decode cX7_addStep 0 = .ok (.aload_n 0, 1) := by decide +kernel
theorem dX7_addStep_1 : decode cX7_addStep 1 = .ok (.getfield 20, 3) := by decide +kernel
theorem dX7_addStep_4 : decode cX7_addStep 4 = .ok (.invokevirtual 153, 3) := by decide +kernel
theorem dX7_addStep_7 : decode cX7_addStep 7 = .ok (.istore 4, 2) := by decide +kernel
theorem dX7_addStep_9 : decode cX7_addStep 9 = .ok (.aload_n 0, 1) := by decide +kernel
theorem dX7_addStep_10 : decode cX7_addStep 10 = .ok (.getfield 20, 3) := by decide +kernel
theorem dX7_addStep_13 : decode cX7_addStep 13 = .ok (.iload 4, 2) := by decide +kernel
theorem dX7_addStep_15 : decode cX7_addStep 15 = .ok (.iconst 0, 1) := by decide +kernel
theorem dX7_addStep_16 : decode cX7_addStep 16 = .ok (.iload_n 1, 1) := by decide +kernel
theorem dX7_addStep_17 : decode cX7_addStep 17 = .ok (.invokevirtual 156, 3) := by decide +kernel
theorem dX7_addStep_20 : decode cX7_addStep 20 = .ok (.aload_n 0, 1) := by decide +kernel
theorem dX7_addStep_21 : decode cX7_addStep 21 = .ok (.getfield 20, 3) := by decide +kernel
theorem dX7_addStep_24 : decode cX7_addStep 24 = .ok (.iload 4, 2) := by decide +kernel
theorem dX7_addStep_26 : decode cX7_addStep 26 = .ok (.iconst 1, 1) := by decide +kernel
theorem dX7_addStep_27 : decode cX7_addStep 27 = .ok (.iload_n 2, 1) := by decide +kernel
theorem dX7_addStep_28 : decode cX7_addStep 28 = .ok (.invokevirtual 156, 3) := by decide +kernel
theorem dX7_addStep_31 : decode cX7_addStep 31 = .ok (.aload_n 0, 1) := by decide +kernel
theorem dX7_addStep_32 : decode cX7_addStep 32 = .ok (.getfield 20, 3) := by decide +kernel
theorem dX7_addStep_35 : decode cX7_addStep 35 = .ok (.iload 4, 2) := by decide +kernel
theorem dX7_addStep_37 : decode cX7_addStep 37 = .ok (.iconst 2, 1) := by decide +kernel
theorem dX7_addStep_38 : decode cX7_addStep 38 = .ok (.iload_n 3, 1) := by decide +kernel
theorem dX7_addStep_39 : decode cX7_addStep 39 = .ok (.invokevirtual 156, 3) := by decide +kernel
theorem dX7_addStep_42 : decode cX7_addStep 42 = .ok (.return_, 1) := by decide +kernel
theorem dX8_init_0 : decode cX8_init 0 = .ok (.aload_n 0, 1) := by decide +kernel
theorem dX8_init_1 : decode cX8_init 1 = .ok (.invokespecial 1, 3) := by decide +kernel
theorem dX8_init_4 : decode cX8_init 4 = .ok (.aload_n 0, 1) := by decide +kernel
theorem dX8_init_5 : decode cX8_init 5 = .ok (.new 7, 3) := by decide +kernel
theorem dX8_init_8 : decode cX8_init 8 = .ok (.dup, 1) := by decide +kernel
theorem dX8_init_9 : decode cX8_init 9 = .ok (.invokespecial 9, 3) := by decide +kernel
theorem dX8_init_12 : decode cX8_init 12 = .ok (.putfield 10, 3) := by decide +kernel
theorem dX8_init_15 : decode cX8_init 15 = .ok (.aload_n 0, 1) := by decide +kernel
theorem dX8_init_16 : decode cX8_init 16 = .ok (.new 7, 3) := by decide +kernel
theorem dX8_init_19 : decode cX8_init 19 = .ok (.dup, 1) := by decide +kernel
theorem dX8_init_20 : decode cX8_init 20 = .ok (.invokespecial 9, 3) := by decide +kernel
theorem dX8_init_23 : decode cX8_init 23 = .ok (.putfield 16, 3) := by decide +kernel
theorem dX8_init_26 : decode cX8_init 26 = .ok (.aload_n 0, 1) := by decide +kernel
theorem dX8_init_27 : decode cX8_init 27 = .ok (.iconst 0, 1) := by decide +kernel
theorem dX8_init_28 : decode cX8_init 28 = .ok (.putfield 19, 3) := by decide +kernel
theorem dX8_init_31 : decode cX8_init 31 = .ok (.aload_n 0, 1) := by decide +kernel
theorem dX8_init_32 : decode cX8_init 32 = .ok (.new 23, 3) := by decide +kernel
theorem dX8_init_35 : decode cX8_init 35 = .ok (.dup, 1) := by decide +kernel
theorem dX8_init_36 : decode cX8_init 36 = .ok (.invokespecial 25, 3) := by decide +kernel
theorem dX8_init_39 : decode cX8_init 39 = .ok (.putfield 26, 3) := by decide +kernel
theorem dX8_init_42 : decode cX8_init 42 = .ok (.aload_n 0, 1) := by decide +kernel
theorem dX8_init_43 : decode cX8_init 43 = .ok (.new 30, 3) := by decide +kernel
theorem dX8_init_46 : decode cX8_init 46 = .ok (.dup, 1) := by decide +kernel
theorem dX8_init_47 : decode cX8_init 47 = .ok (.invokespecial 32, 3) := by decide +kernel
theorem dX8_init_50 : decode cX8_init 50 = .ok (.putfield 33, 3) := by decide +kernel
theorem dX8_init_53 : decode cX8_init 53 = .ok (.aload_n 0, 1) := by decide +kernel
theorem dX8_init_54 : decode cX8_init 54 = .ok (.new 37, 3) := by decide +kernel
theorem dX8_init_57 : decode cX8_init 57 = .ok (.dup, 1) := by decide +kernel
theorem dX8_init_58 : decode cX8_init 58 = .ok (.invokespecial 39, 3) := by decide +kernel
theorem dX8_init_61 : decode cX8_init 61 = .ok (.putfield 40, 3) := by decide +kernel
theorem dX8_init_64 : decode cX8_init 64 = .ok (.aload_n 0, 1) := by decide +kernel
theorem dX8_init_65 : decode cX8_init 65 = .ok (.new 44, 3) := by decide +kernel
theorem dX8_init_68 : decode cX8_init 68 = .ok (.dup, 1) := by decide +kernel
theorem dX8_init_69 : decode cX8_init 69 = .ok (.sipush 200, 3) := by decide +kernel
theorem dX8_init_72 : decode cX8_init 72 = .ok (.invokespecial 46, 3) := by decide +kernel
theorem dX8_init_75 : decode cX8_init 75 = .ok (.putfield 49, 3) := by decide +kernel
theorem dX8_init_78 : decode cX8_init 78 = .ok (.aload_n 0, 1) := by decide +kernel
theorem dX8_init_79 : decode cX8_init 79 = .ok (.new 53, 3) := by decide +kernel
theorem dX8_init_82 : decode cX8_init 82 = .ok (.dup, 1) := by decide +kernel
theorem dX8_init_83 : decode cX8_init 83 = .ok (.iconst 2, 1) := by decide +kernel
theorem dX8_init_84 : decode cX8_init 84 = .ok (.bipush 7, 2) := by decide +kernel
theorem dX8_init_86 : decode cX8_init 86 = .ok (.invokespecial 55, 3) := by decide +kernel
theorem dX8_init_89 : decode cX8_init 89 = .ok (.putfield 58, 3) := by decide +kernel
theorem dX8_init_92 : decode cX8_init 92 = .ok (.aload_n 0, 1) := by decide +kernel
theorem dX8_init_93 : decode cX8_init 93 = .ok (.iconst 4, 1) := by decide +kernel
theorem dX8_init_94 : decode cX8_init 94 = .ok (.anewarray 62, 3) := by decide +kernel
theorem dX8_init_97 : decode cX8_init 97 = .ok (.dup, 1) := by decide +kernel
theorem dX8_init_98 : decode cX8_init 98 = .ok (.iconst 0, 1) := by decide +kernel
theorem dX8_init_99 : decode cX8_init 99 = .ok (.new 62, 3) := by decide +kernel
theorem dX8_init_102 : decode cX8_init 102 = .ok (.dup, 1) := by decide +kernel
theorem dX8_init_103 : decode cX8_init 103 = .ok (.invokespecial 64, 3) := by decide +kernel
theorem dX8_init_106 : decode cX8_init 106 = .ok (.aastore, 1) := by decide +kernel
theorem dX8_init_107 : decode cX8_init 107 = .ok (.dup, 1) := by decide +kernel
theorem dX8_init_108 : decode cX8_init 108 = .ok (.iconst 1, 1) := by decide +kernel
theorem dX8_init_109 : decode cX8_init 109 = .ok (.new 62, 3) := by decide +kernel
theorem dX8_init_112 : decode cX8_init 112 = .ok (.dup, 1) := by decide +kernel
theorem dX8_init_113 : decode cX8_init 113 = .ok (.invokespecial 64, 3) := by decide +kernel
theorem dX8_init_116 : decode cX8_init 116 = .ok (.aastore, 1) := by decide +kernel
theorem dX8_init_117 : decode cX8_init 117 = .ok (.dup, 1) := by decide +kernel
theorem dX8_init_118 : decode cX8_init 118 = .ok (.iconst 2, 1) := by decide +kernel
theorem dX8_init_119 : decode cX8_init 119 = .ok (.new 62, 3) := by decide +kernel
theorem dX8_init_122 : decode cX8_init 122 = .ok (.dup, 1) := by decide +kernel
theorem dX8_init_123 : decode cX8_init 123 = .ok (.invokespecial 64, 3) := by decide +kernel
theorem dX8_init_126 : decode cX8_init 126 = .ok (.aastore, 1) := by decide +kernel
theorem dX8_init_127 : decode cX8_init 127 = .ok (.dup, 1) := by decide +kernel
theorem dX8_init_128 : decode cX8_init 128 = .ok (.iconst 3, 1) := by decide +kernel
theorem dX8_init_129 : decode cX8_init 129 = .ok (.new 62, 3) := by decide +kernel
theorem dX8_init_132 : decode cX8_init 132 = .ok (.dup, 1) := by decide +kernel
theorem dX8_init_133 : decode cX8_init 133 = .ok (.invokespecial 64, 3) := by decide +kernel
theorem dX8_init_136 : decode cX8_init 136 = .ok (.aastore, 1) := by decide +kernel
theorem dX8_init_137 : decode cX8_init 137 = .ok (.putfield 65, 3) := by decide +kernel
theorem dX8_init_140 : decode cX8_init 140 = .ok (.aload_n 0, 1) := by decide +kernel
theorem dX8_init_141 : decode cX8_init 141 = .ok (.new 53, 3) := by decide +kernel
theorem dX8_init_144 : decode cX8_init 144 = .ok (.dup, 1) := by decide +kernel
theorem dX8_init_145 : decode cX8_init 145 = .ok (.iconst 4, 1) := by decide +kernel
theorem dX8_init_146 : decode cX8_init 146 = .ok (.iconst 4, 1) := by decide +kernel
theorem dX8_init_147 : decode cX8_init 147 = .ok (.invokespecial 55, 3) := by decide +kernel
theorem dX8_init_150 : decode cX8_init 150 = .ok (.putfield 69, 3) := by decide +kernel
theorem dX8_init_153 : decode cX8_init 153 = .ok (.aload_n 0, 1) := by decide +kernel
theorem dX8_init_154 : decode cX8_init 154 = .ok (.new 72, 3) := by decide +kernel
theorem dX8_init_157 : decode cX8_init 157 = .ok (.dup, 1) := by decide +kernel
theorem dX8_init_158 : decode cX8_init 158 = .ok (.invokespecial 74, 3) := by decide +kernel
theorem dX8_init_161 : decode cX8_init 161 = .ok (.putfield 75, 3) := by decide +kernel
theorem dX8_init_164 : decode cX8_init 164 = .ok (.iconst 0, 1) := by decide +kernel
theorem dX8_init_165 : decode cX8_init 165 = .ok (.istore_n 1, 1) := by decide +kernel
theorem dX8_init_166 : decode cX8_init 166 = .ok (.iload_n 1, 1) := by decide +kernel
theorem dX8_init_167 : decode cX8_init 167 = .ok (.iconst 4, 1) := by decide +kernel
theorem dX8_init_168 : decode cX8_init 168 = .ok (.if_icmp .ge 25, 3) := by decide +kernel
theorem dX8_init_171 : decode cX8_init 171 = .ok (.aload_n 0, 1) := by decide +kernel
theorem dX8_init_172 : decode cX8_init 172 = .ok (.getfield 69, 3) := by decide +kernel
theorem dX8_init_175 : decode cX8_init 175 = .ok (.aload_n 0, 1) := by decide +kernel
theorem dX8_init_176 : decode cX8_init 176 = .ok (.getfield 69, 3) := by decide +kernel
theorem dX8_init_179 : decode cX8_init 179 = .ok (.invokevirtual 79, 3) := by decide +kernel
theorem dX8_init_182 : decode cX8_init 182 = .ok (.iconst 0, 1) := by decide +kernel
theorem dX8_init_183 : decode cX8_init 183 = .ok (.iconst 3, 1) := by decide +kernel
theorem dX8_init_184 : decode cX8_init 184 = .ok (.invokevirtual 83, 3) := by decide +kernel
theorem dX8_init_187 : decode cX8_init 187 = .ok (.iinc 1 1, 3) := by decide +kernel
theorem dX8_init_190 : decode cX8_init 190 = .ok (.goto (-24), 3) := by decide +kernel
theorem dX8_init_193 : decode cX8_init 193 = .ok (.return_, 1) := by decide +kernel
theorem dX8_person_0 : decode cX8_person 0 = .ok (.iload_n 1, 1) := by decide +kernel
theorem dX8_person_1 : decode cX8_person 1 = .ok (.invokestatic 87, 3) := by decide +kernel
theorem dX8_person_4 : decode cX8_person 4 = .ok (.ifCond .eq 22, 3) := by decide +kernel
theorem dX8_person_7 : decode cX8_person 7 = .ok (.iload_n 2, 1) := by decide +kernel
theorem dX8_person_8 : decode cX8_person 8 = .ok (.iconst 0, 1) := by decide +kernel
theorem dX8_person_9 : decode cX8_person 9 = .ok (.bipush 9, 2) := by decide +kernel
theorem dX8_person_11 : decode cX8_person 11 = .ok (.invokestatic 91, 3) := by decide +kernel
theorem dX8_person_14 : decode cX8_person 14 = .ok (.ifCond .eq 12, 3) := by decide +kernel
theorem dX8_person_17 : decode cX8_person 17 = .ok (.iload_n 3, 1) := by decide +kernel
theorem dX8_person_18 : decode cX8_person 18 = .ok (.iconst 0, 1) := by decide +kernel
theorem dX8_person_19 : decode cX8_person 19 = .ok (.iconst 1, 1) := by decide +kernel
theorem dX8_person_20 : decode cX8_person 20 = .ok (.invokestatic 91, 3) := by decide +kernel
theorem dX8_person_23 : decode cX8_person 23 = .ok (.ifCond .ne 5, 3) := by decide +kernel
theorem dX8_person_26 : decode cX8_person 26 = .ok (.iconst (-1), 1) := by decide +kernel
theorem dX8_person_27 : decode cX8_person 27 = .ok (.ireturn, 1) := by decide +kernel
theorem dX8_person_28 : decode cX8_person 28 = .ok (.aload_n 0, 1) := by decide +kernel
theorem dX8_person_29 : decode cX8_person 29 = .ok (.getfield 10, 3) := by decide +kernel
theorem dX8_person_32 : decode cX8_person 32 = .ok (.getfield 95, 3) := by decide +kernel
theorem dX8_person_35 : decode cX8_person 35 = .ok (.invokevirtual 98, 3) := by decide +kernel
theorem dX8_person_38 : decode cX8_person 38 = .ok (.ifCond .eq 6, 3) := by decide +kernel
theorem dX8_person_41 : decode cX8_person 41 = .ok (.bipush (-2), 2) := by decide +kernel
theorem dX8_person_43 : decode cX8_person 43 = .ok (.ireturn, 1) := by decide +kernel
theorem dX8_person_44 : decode cX8_person 44 = .ok (.aload_n 0, 1) := by decide +kernel
theorem dX8_person_45 : decode cX8_person 45 = .ok (.getfield 10, 3) := by decide +kernel
theorem dX8_person_48 : decode cX8_person 48 = .ok (.getfield 95, 3) := by decide +kernel
theorem dX8_person_51 : decode cX8_person 51 = .ok (.invokevirtual 79, 3) := by decide +kernel
theorem dX8_person_54 : decode cX8_person 54 = .ok (.istore 4, 2) := by decide +kernel
theorem dX8_person_56 : decode cX8_person 56 = .ok (.aload_n 0, 1) := by decide +kernel
theorem dX8_person_57 : decode cX8_person 57 = .ok (.getfield 10, 3) := by decide +kernel
theorem dX8_person_60 : decode cX8_person 60 = .ok (.getfield 95, 3) := by decide +kernel
theorem dX8_person_63 : decode cX8_person 63 = .ok (.iload 4, 2) := by decide +kernel
theorem dX8_person_65 : decode cX8_person 65 = .ok (.iconst 0, 1) := by decide +kernel
theorem dX8_person_66 : decode cX8_person 66 = .ok (.iload_n 1, 1) := by decide +kernel
theorem dX8_person_67 : decode cX8_person 67 = .ok (.invokevirtual 83, 3) := by decide +kernel
theorem dX8_person_70 : decode cX8_person 70 = .ok (.aload_n 0, 1) := by decide +kernel
theorem dX8_person_71 : decode cX8_person 71 = .ok (.getfield 10, 3) := by decide +kernel
theorem dX8_person_74 : decode cX8_person 74 = .ok (.getfield 95, 3) := by decide +kernel
theorem dX8_person_77 : decode cX8_person 77 = .ok (.iload 4, 2) := by decide +kernel
theorem dX8_person_79 : decode cX8_person 79 = .ok (.iconst 1, 1) := by decide +kernel
theorem dX8_person_80 : decode cX8_person 80 = .ok (.iload_n 2, 1) := by decide +kernel
theorem dX8_person_81 : decode cX8_person 81 = .ok (.invokevirtual 83, 3) := by decide +kernel
theorem dX8_person_84 : decode cX8_person 84 = .ok (.aload_n 0, 1) := by decide +kernel
theorem dX8_person_85 : decode cX8_person 85 = .ok (.getfield 10, 3) := by decide +kernel
theorem dX8_person_88 : decode cX8_person 88 = .ok (.getfield 95, 3) := by decide +kernel
theorem dX8_person_91 : decode cX8_person 91 = .ok (.iload 4, 2) := by decide +kernel
theorem dX8_person_93 : decode cX8_person 93 = .ok (.iconst 2, 1) := by decide +kernel
theorem dX8_person_94 : decode cX8_person 94 = .ok (.iload_n 3, 1) := by decide +kernel
theorem dX8_person_95 : decode cX8_person 95 = .ok (.invokevirtual 83, 3) := by decide +kernel
theorem dX8_person_98 : decode cX8_person 98 = .ok (.aload_n 0, 1) := by decide +kernel
theorem dX8_person_99 : decode cX8_person 99 = .ok (.getfield 10, 3) := by decide +kernel
theorem dX8_person_102 : decode cX8_person 102 = .ok (.getfield 95, 3) := by decide +kernel
theorem dX8_person_105 : decode cX8_person 105 = .ok (.iload 4, 2) := by decide +kernel
theorem dX8_person_107 : decode cX8_person 107 = .ok (.iconst 3, 1) := by decide +kernel
theorem dX8_person_108 : decode cX8_person 108 = .ok (.iconst (-1), 1) := by decide +kernel
theorem dX8_person_109 : decode cX8_person 109 = .ok (.invokevirtual 83, 3) := by decide +kernel
theorem dX8_person_112 : decode cX8_person 112 = .ok (.iload 4, 2) := by decide +kernel
theorem dX8_person_114 : decode cX8_person 114 = .ok (.ireturn, 1) := by decide +kernel
theorem dX8_personOf_0 : decode cX8_personOf 0 = .ok (.aload_n 0, 1) := by decide +kernel
theorem dX8_personOf_1 : decode cX8_personOf 1 = .ok (.getfield 10, 3) := by decide +kernel
theorem dX8_personOf_4 : decode cX8_personOf 4 = .ok (.getfield 95, 3) := by decide +kernel
theorem dX8_personOf_7 : decode cX8_personOf 7 = .ok (.iload_n 1, 1) := by decide +kernel
theorem dX8_personOf_8 : decode cX8_personOf 8 = .ok (.invokevirtual 102, 3) := by decide +kernel
theorem dX8_personOf_11 : decode cX8_personOf 11 = .ok (.ifCond .ne 5, 3) := by decide +kernel
theorem dX8_personOf_14 : decode cX8_personOf 14 = .ok (.iconst (-1), 1) := by decide +kernel
theorem dX8_personOf_15 : decode cX8_personOf 15 = .ok (.ireturn, 1) := by decide +kernel
theorem dX8_personOf_16 : decode cX8_personOf 16 = .ok (.iload_n 2, 1) := by decide +kernel
theorem dX8_personOf_17 : decode cX8_personOf 17 = .ok (.tableswitch 125 0 5 #[39, 52, 65, 78, 87, 96], 39) := by decide +kernel
theorem dX8_personOf_56 : decode cX8_personOf 56 = .ok (.aload_n 0, 1) := by decide +kernel
theorem dX8_personOf_57 : decode cX8_personOf 57 = .ok (.getfield 10, 3) := by decide +kernel
theorem dX8_personOf_60 : decode cX8_personOf 60 = .ok (.getfield 95, 3) := by decide +kernel
theorem dX8_personOf_63 : decode cX8_personOf 63 = .ok (.iload_n 1, 1) := by decide +kernel
theorem dX8_personOf_64 : decode cX8_personOf 64 = .ok (.iconst 0, 1) := by decide +kernel
theorem dX8_personOf_65 : decode cX8_personOf 65 = .ok (.invokevirtual 105, 3) := by decide +kernel
theorem dX8_personOf_68 : decode cX8_personOf 68 = .ok (.ireturn, 1) := by decide +kernel
theorem dX8_personOf_69 : decode cX8_personOf 69 = .ok (.aload_n 0, 1) := by decide +kernel
theorem dX8_personOf_70 : decode cX8_personOf 70 = .ok (.getfield 10, 3) := by decide +kernel
theorem dX8_personOf_73 : decode cX8_personOf 73 = .ok (.getfield 95, 3) := by decide +kernel
theorem dX8_personOf_76 : decode cX8_personOf 76 = .ok (.iload_n 1, 1) := by decide +kernel
theorem dX8_personOf_77 : decode cX8_personOf 77 = .ok (.iconst 1, 1) := by decide +kernel
theorem dX8_personOf_78 : decode cX8_personOf 78 = .ok (.invokevirtual 105, 3) := by decide +kernel
theorem dX8_personOf_81 : decode cX8_personOf 81 = .ok (.ireturn, 1) := by decide +kernel
theorem dX8_personOf_82 : decode cX8_personOf 82 = .ok (.aload_n 0, 1) := by decide +kernel
theorem dX8_personOf_83 : decode cX8_personOf 83 = .ok (.getfield 10, 3) := by decide +kernel
theorem dX8_personOf_86 : decode cX8_personOf 86 = .ok (.getfield 95, 3) := by decide +kernel
theorem dX8_personOf_89 : decode cX8_personOf 89 = .ok (.iload_n 1, 1) := by decide +kernel
theorem dX8_personOf_90 : decode cX8_personOf 90 = .ok (.iconst 2, 1) := by decide +kernel
theorem dX8_personOf_91 : decode cX8_personOf 91 = .ok (.invokevirtual 105, 3) := by decide +kernel
theorem dX8_personOf_94 : decode cX8_personOf 94 = .ok (.ireturn, 1) := by decide +kernel
theorem dX8_personOf_95 : decode cX8_personOf 95 = .ok (.aload_n 0, 1) := by decide +kernel
theorem dX8_personOf_96 : decode cX8_personOf 96 = .ok (.getfield 10, 3) := by decide +kernel
theorem dX8_personOf_99 : decode cX8_personOf 99 = .ok (.iload_n 1, 1) := by decide +kernel
theorem dX8_personOf_100 : decode cX8_personOf 100 = .ok (.invokevirtual 109, 3) := by decide +kernel
theorem dX8_personOf_103 : decode cX8_personOf 103 = .ok (.ireturn, 1) := by decide +kernel
theorem dX8_personOf_104 : decode cX8_personOf 104 = .ok (.aload_n 0, 1) := by decide +kernel
theorem dX8_personOf_105 : decode cX8_personOf 105 = .ok (.getfield 10, 3) := by decide +kernel
theorem dX8_personOf_108 : decode cX8_personOf 108 = .ok (.iload_n 1, 1) := by decide +kernel
theorem dX8_personOf_109 : decode cX8_personOf 109 = .ok (.invokevirtual 113, 3) := by decide +kernel
theorem dX8_personOf_112 : decode cX8_personOf 112 = .ok (.ireturn, 1) := by decide +kernel
theorem dX8_personOf_113 : decode cX8_personOf 113 = .ok (.aload_n 0, 1) := by decide +kernel
theorem dX8_personOf_114 : decode cX8_personOf 114 = .ok (.getfield 10, 3) := by decide +kernel
theorem dX8_personOf_117 : decode cX8_personOf 117 = .ok (.iload_n 1, 1) := by decide +kernel
theorem dX8_personOf_118 : decode cX8_personOf 118 = .ok (.invokevirtual 116, 3) := by decide +kernel
theorem dX8_personOf_121 : decode cX8_personOf 121 = .ok (.ifCond .eq 18, 3) := by decide +kernel
theorem dX8_personOf_124 : decode cX8_personOf 124 = .ok (.aload_n 0, 1) := by decide +kernel
theorem dX8_personOf_125 : decode cX8_personOf 125 = .ok (.getfield 10, 3) := by decide +kernel
theorem dX8_personOf_128 : decode cX8_personOf 128 = .ok (.getfield 95, 3) := by decide +kernel
theorem dX8_personOf_131 : decode cX8_personOf 131 = .ok (.iload_n 1, 1) := by decide +kernel
theorem dX8_personOf_132 : decode cX8_personOf 132 = .ok (.iconst 3, 1) := by decide +kernel
theorem dX8_personOf_133 : decode cX8_personOf 133 = .ok (.invokevirtual 105, 3) := by decide +kernel
theorem dX8_personOf_136 : decode cX8_personOf 136 = .ok (.goto 5, 3) := by decide +kernel
theorem dX8_personOf_139 : decode cX8_personOf 139 = .ok (.bipush (-9), 2) := by decide +kernel
theorem dX8_personOf_141 : decode cX8_personOf 141 = .ok (.ireturn, 1) := by decide +kernel
theorem dX8_personOf_142 : decode cX8_personOf 142 = .ok (.iconst (-1), 1) := by decide +kernel
theorem dX8_personOf_143 : decode cX8_personOf 143 = .ok (.ireturn, 1) := by decide +kernel
theorem dX8_paper_0 : decode cX8_paper 0 = .ok (.aload_n 0, 1) := by decide +kernel
theorem dX8_paper_1 : decode cX8_paper 1 = .ok (.getfield 10, 3) := by decide +kernel
theorem dX8_paper_4 : decode cX8_paper 4 = .ok (.getfield 95, 3) := by decide +kernel
theorem dX8_paper_7 : decode cX8_paper 7 = .ok (.iload_n 1, 1) := by decide +kernel
theorem dX8_paper_8 : decode cX8_paper 8 = .ok (.invokevirtual 102, 3) := by decide +kernel
theorem dX8_paper_11 : decode cX8_paper 11 = .ok (.ifCond .eq 20, 3) := by decide +kernel
theorem dX8_paper_14 : decode cX8_paper 14 = .ok (.iload_n 2, 1) := by decide +kernel
theorem dX8_paper_15 : decode cX8_paper 15 = .ok (.iconst 1, 1) := by decide +kernel
theorem dX8_paper_16 : decode cX8_paper 16 = .ok (.bipush 7, 2) := by decide +kernel
theorem dX8_paper_18 : decode cX8_paper 18 = .ok (.invokestatic 91, 3) := by decide +kernel
theorem dX8_paper_21 : decode cX8_paper 21 = .ok (.ifCond .eq 10, 3) := by decide +kernel
theorem dX8_paper_24 : decode cX8_paper 24 = .ok (.iload_n 3, 1) := by decide +kernel
theorem dX8_paper_25 : decode cX8_paper 25 = .ok (.invokestatic 119, 3) := by decide +kernel
theorem dX8_paper_28 : decode cX8_paper 28 = .ok (.ifCond .ne 5, 3) := by decide +kernel
theorem dX8_paper_31 : decode cX8_paper 31 = .ok (.iconst (-1), 1) := by decide +kernel
theorem dX8_paper_32 : decode cX8_paper 32 = .ok (.ireturn, 1) := by decide +kernel
theorem dX8_paper_33 : decode cX8_paper 33 = .ok (.iload 4, 2) := by decide +kernel
theorem dX8_paper_35 : decode cX8_paper 35 = .ok (.invokestatic 119, 3) := by decide +kernel
theorem dX8_paper_38 : decode cX8_paper 38 = .ok (.ifCond .eq 14, 3) := by decide +kernel
theorem dX8_paper_41 : decode cX8_paper 41 = .ok (.iload 5, 2) := by decide +kernel
theorem dX8_paper_43 : decode cX8_paper 43 = .ok (.iconst 0, 1) := by decide +kernel
theorem dX8_paper_44 : decode cX8_paper 44 = .ok (.bipush 99, 2) := by decide +kernel
theorem dX8_paper_46 : decode cX8_paper 46 = .ok (.invokestatic 91, 3) := by decide +kernel
theorem dX8_paper_49 : decode cX8_paper 49 = .ok (.ifCond .ne 5, 3) := by decide +kernel
theorem dX8_paper_52 : decode cX8_paper 52 = .ok (.iconst (-1), 1) := by decide +kernel
theorem dX8_paper_53 : decode cX8_paper 53 = .ok (.ireturn, 1) := by decide +kernel
theorem dX8_paper_54 : decode cX8_paper 54 = .ok (.iload_n 2, 1) := by decide +kernel
theorem dX8_paper_55 : decode cX8_paper 55 = .ok (.iconst 5, 1) := by decide +kernel
theorem dX8_paper_56 : decode cX8_paper 56 = .ok (.if_icmp .ne 20, 3) := by decide +kernel
theorem dX8_paper_59 : decode cX8_paper 59 = .ok (.aload_n 0, 1) := by decide +kernel
theorem dX8_paper_60 : decode cX8_paper 60 = .ok (.getfield 10, 3) := by decide +kernel
theorem dX8_paper_63 : decode cX8_paper 63 = .ok (.getfield 122, 3) := by decide +kernel
theorem dX8_paper_66 : decode cX8_paper 66 = .ok (.iload 6, 2) := by decide +kernel
theorem dX8_paper_68 : decode cX8_paper 68 = .ok (.invokevirtual 102, 3) := by decide +kernel
theorem dX8_paper_71 : decode cX8_paper 71 = .ok (.ifCond .ne 5, 3) := by decide +kernel
theorem dX8_paper_74 : decode cX8_paper 74 = .ok (.iconst (-1), 1) := by decide +kernel
theorem dX8_paper_75 : decode cX8_paper 75 = .ok (.ireturn, 1) := by decide +kernel
theorem dX8_paper_76 : decode cX8_paper 76 = .ok (.aload_n 0, 1) := by decide +kernel
theorem dX8_paper_77 : decode cX8_paper 77 = .ok (.getfield 10, 3) := by decide +kernel
theorem dX8_paper_80 : decode cX8_paper 80 = .ok (.getfield 122, 3) := by decide +kernel
theorem dX8_paper_83 : decode cX8_paper 83 = .ok (.invokevirtual 98, 3) := by decide +kernel
theorem dX8_paper_86 : decode cX8_paper 86 = .ok (.ifCond .ne 16, 3) := by decide +kernel
theorem dX8_paper_89 : decode cX8_paper 89 = .ok (.aload_n 0, 1) := by decide +kernel
theorem dX8_paper_90 : decode cX8_paper 90 = .ok (.getfield 10, 3) := by decide +kernel
theorem dX8_paper_93 : decode cX8_paper 93 = .ok (.iload_n 1, 1) := by decide +kernel
theorem dX8_paper_94 : decode cX8_paper 94 = .ok (.invokevirtual 113, 3) := by decide +kernel
theorem dX8_paper_97 : decode cX8_paper 97 = .ok (.bipush 6, 2) := by decide +kernel
theorem dX8_paper_99 : decode cX8_paper 99 = .ok (.if_icmp .lt 6, 3) := by decide +kernel
theorem dX8_paper_102 : decode cX8_paper 102 = .ok (.bipush (-2), 2) := by decide +kernel
theorem dX8_paper_104 : decode cX8_paper 104 = .ok (.ireturn, 1) := by decide +kernel
theorem dX8_paper_105 : decode cX8_paper 105 = .ok (.aload_n 0, 1) := by decide +kernel
theorem dX8_paper_106 : decode cX8_paper 106 = .ok (.getfield 10, 3) := by decide +kernel
theorem dX8_paper_109 : decode cX8_paper 109 = .ok (.getfield 122, 3) := by decide +kernel
theorem dX8_paper_112 : decode cX8_paper 112 = .ok (.invokevirtual 79, 3) := by decide +kernel
theorem dX8_paper_115 : decode cX8_paper 115 = .ok (.istore 7, 2) := by decide +kernel
theorem dX8_paper_117 : decode cX8_paper 117 = .ok (.aload_n 0, 1) := by decide +kernel
theorem dX8_paper_118 : decode cX8_paper 118 = .ok (.getfield 10, 3) := by decide +kernel
theorem dX8_paper_121 : decode cX8_paper 121 = .ok (.getfield 122, 3) := by decide +kernel
theorem dX8_paper_124 : decode cX8_paper 124 = .ok (.iload 7, 2) := by decide +kernel
theorem dX8_paper_126 : decode cX8_paper 126 = .ok (.iconst 0, 1) := by decide +kernel
theorem dX8_paper_127 : decode cX8_paper 127 = .ok (.iload_n 1, 1) := by decide +kernel
theorem dX8_paper_128 : decode cX8_paper 128 = .ok (.invokevirtual 83, 3) := by decide +kernel
theorem dX8_paper_131 : decode cX8_paper 131 = .ok (.aload_n 0, 1) := by decide +kernel
theorem dX8_paper_132 : decode cX8_paper 132 = .ok (.getfield 10, 3) := by decide +kernel
theorem dX8_paper_135 : decode cX8_paper 135 = .ok (.getfield 122, 3) := by decide +kernel
theorem dX8_paper_138 : decode cX8_paper 138 = .ok (.iload 7, 2) := by decide +kernel
theorem dX8_paper_140 : decode cX8_paper 140 = .ok (.iconst 1, 1) := by decide +kernel
theorem dX8_paper_141 : decode cX8_paper 141 = .ok (.iload_n 2, 1) := by decide +kernel
theorem dX8_paper_142 : decode cX8_paper 142 = .ok (.invokevirtual 83, 3) := by decide +kernel
theorem dX8_paper_145 : decode cX8_paper 145 = .ok (.aload_n 0, 1) := by decide +kernel
theorem dX8_paper_146 : decode cX8_paper 146 = .ok (.getfield 10, 3) := by decide +kernel
theorem dX8_paper_149 : decode cX8_paper 149 = .ok (.getfield 122, 3) := by decide +kernel
theorem dX8_paper_152 : decode cX8_paper 152 = .ok (.iload 7, 2) := by decide +kernel
theorem dX8_paper_154 : decode cX8_paper 154 = .ok (.iconst 2, 1) := by decide +kernel
theorem dX8_paper_155 : decode cX8_paper 155 = .ok (.iload_n 3, 1) := by decide +kernel
theorem dX8_paper_156 : decode cX8_paper 156 = .ok (.invokevirtual 83, 3) := by decide +kernel
theorem dX8_paper_159 : decode cX8_paper 159 = .ok (.aload_n 0, 1) := by decide +kernel
theorem dX8_paper_160 : decode cX8_paper 160 = .ok (.getfield 10, 3) := by decide +kernel
theorem dX8_paper_163 : decode cX8_paper 163 = .ok (.getfield 122, 3) := by decide +kernel
theorem dX8_paper_166 : decode cX8_paper 166 = .ok (.iload 7, 2) := by decide +kernel
theorem dX8_paper_168 : decode cX8_paper 168 = .ok (.iconst 3, 1) := by decide +kernel
theorem dX8_paper_169 : decode cX8_paper 169 = .ok (.iload 4, 2) := by decide +kernel
theorem dX8_paper_171 : decode cX8_paper 171 = .ok (.invokevirtual 83, 3) := by decide +kernel
theorem dX8_paper_174 : decode cX8_paper 174 = .ok (.aload_n 0, 1) := by decide +kernel
theorem dX8_paper_175 : decode cX8_paper 175 = .ok (.getfield 10, 3) := by decide +kernel
theorem dX8_paper_178 : decode cX8_paper 178 = .ok (.getfield 122, 3) := by decide +kernel
theorem dX8_paper_181 : decode cX8_paper 181 = .ok (.iload 7, 2) := by decide +kernel
theorem dX8_paper_183 : decode cX8_paper 183 = .ok (.iconst 4, 1) := by decide +kernel
theorem dX8_paper_184 : decode cX8_paper 184 = .ok (.iload 5, 2) := by decide +kernel
theorem dX8_paper_186 : decode cX8_paper 186 = .ok (.invokevirtual 83, 3) := by decide +kernel
theorem dX8_paper_189 : decode cX8_paper 189 = .ok (.aload_n 0, 1) := by decide +kernel
theorem dX8_paper_190 : decode cX8_paper 190 = .ok (.getfield 10, 3) := by decide +kernel
theorem dX8_paper_193 : decode cX8_paper 193 = .ok (.getfield 122, 3) := by decide +kernel
theorem dX8_paper_196 : decode cX8_paper 196 = .ok (.iload 7, 2) := by decide +kernel
theorem dX8_paper_198 : decode cX8_paper 198 = .ok (.iconst 5, 1) := by decide +kernel
theorem dX8_paper_199 : decode cX8_paper 199 = .ok (.iload_n 2, 1) := by decide +kernel
theorem dX8_paper_200 : decode cX8_paper 200 = .ok (.iconst 5, 1) := by decide +kernel
theorem dX8_paper_201 : decode cX8_paper 201 = .ok (.if_icmp .ne 8, 3) := by decide +kernel
theorem dX8_paper_204 : decode cX8_paper 204 = .ok (.iload 6, 2) := by decide +kernel
theorem dX8_paper_206 : decode cX8_paper 206 = .ok (.goto 5, 3) := by decide +kernel
theorem dX8_paper_209 : decode cX8_paper 209 = .ok (.bipush (-9), 2) := by decide +kernel
theorem dX8_paper_211 : decode cX8_paper 211 = .ok (.invokevirtual 83, 3) := by decide +kernel
theorem dX8_paper_214 : decode cX8_paper 214 = .ok (.iload 7, 2) := by decide +kernel
theorem dX8_paper_216 : decode cX8_paper 216 = .ok (.ireturn, 1) := by decide +kernel
theorem dX8_paperOf_0 : decode cX8_paperOf 0 = .ok (.aload_n 0, 1) := by decide +kernel
theorem dX8_paperOf_1 : decode cX8_paperOf 1 = .ok (.getfield 10, 3) := by decide +kernel
theorem dX8_paperOf_4 : decode cX8_paperOf 4 = .ok (.getfield 122, 3) := by decide +kernel
theorem dX8_paperOf_7 : decode cX8_paperOf 7 = .ok (.iload_n 1, 1) := by decide +kernel
theorem dX8_paperOf_8 : decode cX8_paperOf 8 = .ok (.invokevirtual 102, 3) := by decide +kernel
theorem dX8_paperOf_11 : decode cX8_paperOf 11 = .ok (.ifCond .eq 12, 3) := by decide +kernel
theorem dX8_paperOf_14 : decode cX8_paperOf 14 = .ok (.iload_n 2, 1) := by decide +kernel
theorem dX8_paperOf_15 : decode cX8_paperOf 15 = .ok (.iconst 0, 1) := by decide +kernel
theorem dX8_paperOf_16 : decode cX8_paperOf 16 = .ok (.iconst 5, 1) := by decide +kernel
theorem dX8_paperOf_17 : decode cX8_paperOf 17 = .ok (.invokestatic 91, 3) := by decide +kernel
theorem dX8_paperOf_20 : decode cX8_paperOf 20 = .ok (.ifCond .ne 5, 3) := by decide +kernel
theorem dX8_paperOf_23 : decode cX8_paperOf 23 = .ok (.iconst (-1), 1) := by decide +kernel
theorem dX8_paperOf_24 : decode cX8_paperOf 24 = .ok (.ireturn, 1) := by decide +kernel
theorem dX8_paperOf_25 : decode cX8_paperOf 25 = .ok (.aload_n 0, 1) := by decide +kernel
theorem dX8_paperOf_26 : decode cX8_paperOf 26 = .ok (.getfield 10, 3) := by decide +kernel
theorem dX8_paperOf_29 : decode cX8_paperOf 29 = .ok (.getfield 122, 3) := by decide +kernel
theorem dX8_paperOf_32 : decode cX8_paperOf 32 = .ok (.iload_n 1, 1) := by decide +kernel
theorem dX8_paperOf_33 : decode cX8_paperOf 33 = .ok (.iload_n 2, 1) := by decide +kernel
theorem dX8_paperOf_34 : decode cX8_paperOf 34 = .ok (.invokevirtual 105, 3) := by decide +kernel
theorem dX8_paperOf_37 : decode cX8_paperOf 37 = .ok (.ireturn, 1) := by decide +kernel
theorem dX8_correct_0 : decode cX8_correct 0 = .ok (.aload_n 0, 1) := by decide +kernel
theorem dX8_correct_1 : decode cX8_correct 1 = .ok (.getfield 10, 3) := by decide +kernel
theorem dX8_correct_4 : decode cX8_correct 4 = .ok (.getfield 122, 3) := by decide +kernel
theorem dX8_correct_7 : decode cX8_correct 7 = .ok (.iload_n 1, 1) := by decide +kernel
theorem dX8_correct_8 : decode cX8_correct 8 = .ok (.invokevirtual 102, 3) := by decide +kernel
theorem dX8_correct_11 : decode cX8_correct 11 = .ok (.ifCond .eq 10, 3) := by decide +kernel
theorem dX8_correct_14 : decode cX8_correct 14 = .ok (.iload_n 2, 1) := by decide +kernel
theorem dX8_correct_15 : decode cX8_correct 15 = .ok (.invokestatic 119, 3) := by decide +kernel
theorem dX8_correct_18 : decode cX8_correct 18 = .ok (.ifCond .ne 5, 3) := by decide +kernel
theorem dX8_correct_21 : decode cX8_correct 21 = .ok (.iconst (-1), 1) := by decide +kernel
theorem dX8_correct_22 : decode cX8_correct 22 = .ok (.ireturn, 1) := by decide +kernel
theorem dX8_correct_23 : decode cX8_correct 23 = .ok (.aload_n 0, 1) := by decide +kernel
theorem dX8_correct_24 : decode cX8_correct 24 = .ok (.getfield 10, 3) := by decide +kernel
theorem dX8_correct_27 : decode cX8_correct 27 = .ok (.getfield 122, 3) := by decide +kernel
theorem dX8_correct_30 : decode cX8_correct 30 = .ok (.iload_n 1, 1) := by decide +kernel
theorem dX8_correct_31 : decode cX8_correct 31 = .ok (.iconst 3, 1) := by decide +kernel
theorem dX8_correct_32 : decode cX8_correct 32 = .ok (.invokevirtual 105, 3) := by decide +kernel
theorem dX8_correct_35 : decode cX8_correct 35 = .ok (.istore_n 3, 1) := by decide +kernel
theorem dX8_correct_36 : decode cX8_correct 36 = .ok (.aload_n 0, 1) := by decide +kernel
theorem dX8_correct_37 : decode cX8_correct 37 = .ok (.getfield 10, 3) := by decide +kernel
theorem dX8_correct_40 : decode cX8_correct 40 = .ok (.getfield 122, 3) := by decide +kernel
theorem dX8_correct_43 : decode cX8_correct 43 = .ok (.iload_n 1, 1) := by decide +kernel
theorem dX8_correct_44 : decode cX8_correct 44 = .ok (.iconst 3, 1) := by decide +kernel
theorem dX8_correct_45 : decode cX8_correct 45 = .ok (.iload_n 2, 1) := by decide +kernel
theorem dX8_correct_46 : decode cX8_correct 46 = .ok (.invokevirtual 83, 3) := by decide +kernel
theorem dX8_correct_49 : decode cX8_correct 49 = .ok (.iload_n 3, 1) := by decide +kernel
theorem dX8_correct_50 : decode cX8_correct 50 = .ok (.ireturn, 1) := by decide +kernel
theorem dX8_span_0 : decode cX8_span 0 = .ok (.aload_n 0, 1) := by decide +kernel
theorem dX8_span_1 : decode cX8_span 1 = .ok (.getfield 10, 3) := by decide +kernel
theorem dX8_span_4 : decode cX8_span 4 = .ok (.getfield 122, 3) := by decide +kernel
theorem dX8_span_7 : decode cX8_span 7 = .ok (.iload_n 1, 1) := by decide +kernel
theorem dX8_span_8 : decode cX8_span 8 = .ok (.invokevirtual 102, 3) := by decide +kernel
theorem dX8_span_11 : decode cX8_span 11 = .ok (.ifCond .eq 10, 3) := by decide +kernel
theorem dX8_span_14 : decode cX8_span 14 = .ok (.iload_n 2, 1) := by decide +kernel
theorem dX8_span_15 : decode cX8_span 15 = .ok (.invokestatic 119, 3) := by decide +kernel
theorem dX8_span_18 : decode cX8_span 18 = .ok (.ifCond .ne 5, 3) := by decide +kernel
theorem dX8_span_21 : decode cX8_span 21 = .ok (.iconst (-1), 1) := by decide +kernel
theorem dX8_span_22 : decode cX8_span 22 = .ok (.ireturn, 1) := by decide +kernel
theorem dX8_span_23 : decode cX8_span 23 = .ok (.aload_n 0, 1) := by decide +kernel
theorem dX8_span_24 : decode cX8_span 24 = .ok (.getfield 10, 3) := by decide +kernel
theorem dX8_span_27 : decode cX8_span 27 = .ok (.iload_n 1, 1) := by decide +kernel
theorem dX8_span_28 : decode cX8_span 28 = .ok (.iload_n 2, 1) := by decide +kernel
theorem dX8_span_29 : decode cX8_span 29 = .ok (.invokevirtual 125, 3) := by decide +kernel
theorem dX8_span_32 : decode cX8_span 32 = .ok (.ifCond .eq 7, 3) := by decide +kernel
theorem dX8_span_35 : decode cX8_span 35 = .ok (.iconst 1, 1) := by decide +kernel
theorem dX8_span_36 : decode cX8_span 36 = .ok (.goto 4, 3) := by decide +kernel
theorem dX8_span_39 : decode cX8_span 39 = .ok (.iconst 0, 1) := by decide +kernel
theorem dX8_span_40 : decode cX8_span 40 = .ok (.ireturn, 1) := by decide +kernel
theorem dX8_life_0 : decode cX8_life 0 = .ok (.iload_n 1, 1) := by decide +kernel
theorem dX8_life_1 : decode cX8_life 1 = .ok (.invokestatic 129, 3) := by decide +kernel
theorem dX8_life_4 : decode cX8_life 4 = .ok (.ifCond .ne 5, 3) := by decide +kernel
theorem dX8_life_7 : decode cX8_life 7 = .ok (.iconst (-1), 1) := by decide +kernel
theorem dX8_life_8 : decode cX8_life 8 = .ok (.ireturn, 1) := by decide +kernel
theorem dX8_life_9 : decode cX8_life 9 = .ok (.aload_n 0, 1) := by decide +kernel
theorem dX8_life_10 : decode cX8_life 10 = .ok (.getfield 65, 3) := by decide +kernel
theorem dX8_life_13 : decode cX8_life 13 = .ok (.iload_n 1, 1) := by decide +kernel
theorem dX8_life_14 : decode cX8_life 14 = .ok (.aaload, 1) := by decide +kernel
theorem dX8_life_15 : decode cX8_life 15 = .ok (.iconst 1, 1) := by decide +kernel
theorem dX8_life_16 : decode cX8_life 16 = .ok (.invokevirtual 132, 3) := by decide +kernel
theorem dX8_life_19 : decode cX8_life 19 = .ok (.istore_n 2, 1) := by decide +kernel
theorem dX8_life_20 : decode cX8_life 20 = .ok (.iload_n 2, 1) := by decide +kernel
theorem dX8_life_21 : decode cX8_life 21 = .ok (.ifCond .eq 5, 3) := by decide +kernel
theorem dX8_life_24 : decode cX8_life 24 = .ok (.iload_n 2, 1) := by decide +kernel
theorem dX8_life_25 : decode cX8_life 25 = .ok (.ireturn, 1) := by decide +kernel
theorem dX8_life_26 : decode cX8_life 26 = .ok (.aload_n 0, 1) := by decide +kernel
theorem dX8_life_27 : decode cX8_life 27 = .ok (.getfield 65, 3) := by decide +kernel
theorem dX8_life_30 : decode cX8_life 30 = .ok (.iload_n 1, 1) := by decide +kernel
theorem dX8_life_31 : decode cX8_life 31 = .ok (.aaload, 1) := by decide +kernel
theorem dX8_life_32 : decode cX8_life 32 = .ok (.invokestatic 135, 3) := by decide +kernel
theorem dX8_life_35 : decode cX8_life 35 = .ok (.ifCond .ne 6, 3) := by decide +kernel
theorem dX8_life_38 : decode cX8_life 38 = .ok (.bipush (-4), 2) := by decide +kernel
theorem dX8_life_40 : decode cX8_life 40 = .ok (.ireturn, 1) := by decide +kernel
theorem dX8_life_41 : decode cX8_life 41 = .ok (.iconst 0, 1) := by decide +kernel
theorem dX8_life_42 : decode cX8_life 42 = .ok (.istore_n 3, 1) := by decide +kernel
theorem dX8_life_43 : decode cX8_life 43 = .ok (.iload_n 3, 1) := by decide +kernel
theorem dX8_life_44 : decode cX8_life 44 = .ok (.bipush 17, 2) := by decide +kernel
theorem dX8_life_46 : decode cX8_life 46 = .ok (.if_icmp .ge 31, 3) := by decide +kernel
theorem dX8_life_49 : decode cX8_life 49 = .ok (.aload_n 0, 1) := by decide +kernel
theorem dX8_life_50 : decode cX8_life 50 = .ok (.getfield 10, 3) := by decide +kernel
theorem dX8_life_53 : decode cX8_life 53 = .ok (.getfield 139, 3) := by decide +kernel
theorem dX8_life_56 : decode cX8_life 56 = .ok (.iload_n 3, 1) := by decide +kernel
theorem dX8_life_57 : decode cX8_life 57 = .ok (.iconst 0, 1) := by decide +kernel
theorem dX8_life_58 : decode cX8_life 58 = .ok (.aload_n 0, 1) := by decide +kernel
theorem dX8_life_59 : decode cX8_life 59 = .ok (.getfield 65, 3) := by decide +kernel
theorem dX8_life_62 : decode cX8_life 62 = .ok (.iload_n 1, 1) := by decide +kernel
theorem dX8_life_63 : decode cX8_life 63 = .ok (.aaload, 1) := by decide +kernel
theorem dX8_life_64 : decode cX8_life 64 = .ok (.iload_n 3, 1) := by decide +kernel
theorem dX8_life_65 : decode cX8_life 65 = .ok (.invokevirtual 142, 3) := by decide +kernel
theorem dX8_life_68 : decode cX8_life 68 = .ok (.invokevirtual 83, 3) := by decide +kernel
theorem dX8_life_71 : decode cX8_life 71 = .ok (.iinc 3 1, 3) := by decide +kernel
theorem dX8_life_74 : decode cX8_life 74 = .ok (.goto (-31), 3) := by decide +kernel
theorem dX8_life_77 : decode cX8_life 77 = .ok (.iconst 1, 1) := by decide +kernel
theorem dX8_life_78 : decode cX8_life 78 = .ok (.ireturn, 1) := by decide +kernel
theorem dX8_isLifeTable_0 : decode cX8_isLifeTable 0 = .ok (.aload_n 0, 1) := by decide +kernel
theorem dX8_isLifeTable_1 : decode cX8_isLifeTable 1 = .ok (.getfield 144, 3) := by decide +kernel
theorem dX8_isLifeTable_4 : decode cX8_isLifeTable 4 = .ok (.bipush 17, 2) := by decide +kernel
theorem dX8_isLifeTable_6 : decode cX8_isLifeTable 6 = .ok (.if_icmp .eq 5, 3) := by decide +kernel
theorem dX8_isLifeTable_9 : decode cX8_isLifeTable 9 = .ok (.iconst 0, 1) := by decide +kernel
theorem dX8_isLifeTable_10 : decode cX8_isLifeTable 10 = .ok (.ireturn, 1) := by decide +kernel
theorem dX8_isLifeTable_11 : decode cX8_isLifeTable 11 = .ok (.iconst 0, 1) := by decide +kernel
theorem dX8_isLifeTable_12 : decode cX8_isLifeTable 12 = .ok (.istore_n 1, 1) := by decide +kernel
theorem dX8_isLifeTable_13 : decode cX8_isLifeTable 13 = .ok (.iload_n 1, 1) := by decide +kernel
theorem dX8_isLifeTable_14 : decode cX8_isLifeTable 14 = .ok (.bipush 17, 2) := by decide +kernel
theorem dX8_isLifeTable_16 : decode cX8_isLifeTable 16 = .ok (.if_icmp .ge 25, 3) := by decide +kernel
theorem dX8_isLifeTable_19 : decode cX8_isLifeTable 19 = .ok (.aload_n 0, 1) := by decide +kernel
theorem dX8_isLifeTable_20 : decode cX8_isLifeTable 20 = .ok (.iload_n 1, 1) := by decide +kernel
theorem dX8_isLifeTable_21 : decode cX8_isLifeTable 21 = .ok (.invokevirtual 142, 3) := by decide +kernel
theorem dX8_isLifeTable_24 : decode cX8_isLifeTable 24 = .ok (.iconst 0, 1) := by decide +kernel
theorem dX8_isLifeTable_25 : decode cX8_isLifeTable 25 = .ok (.bipush 100, 2) := by decide +kernel
theorem dX8_isLifeTable_27 : decode cX8_isLifeTable 27 = .ok (.invokestatic 91, 3) := by decide +kernel
theorem dX8_isLifeTable_30 : decode cX8_isLifeTable 30 = .ok (.ifCond .ne 5, 3) := by decide +kernel
theorem dX8_isLifeTable_33 : decode cX8_isLifeTable 33 = .ok (.iconst 0, 1) := by decide +kernel
theorem dX8_isLifeTable_34 : decode cX8_isLifeTable 34 = .ok (.ireturn, 1) := by decide +kernel
theorem dX8_isLifeTable_35 : decode cX8_isLifeTable 35 = .ok (.iinc 1 1, 3) := by decide +kernel
theorem dX8_isLifeTable_38 : decode cX8_isLifeTable 38 = .ok (.goto (-25), 3) := by decide +kernel
theorem dX8_isLifeTable_41 : decode cX8_isLifeTable 41 = .ok (.iconst 1, 1) := by decide +kernel
theorem dX8_isLifeTable_42 : decode cX8_isLifeTable 42 = .ok (.ireturn, 1) := by decide +kernel
theorem dX8_weight_0 : decode cX8_weight 0 = .ok (.aload_n 0, 1) := by decide +kernel
theorem dX8_weight_1 : decode cX8_weight 1 = .ok (.getfield 10, 3) := by decide +kernel
theorem dX8_weight_4 : decode cX8_weight 4 = .ok (.getfield 95, 3) := by decide +kernel
theorem dX8_weight_7 : decode cX8_weight 7 = .ok (.iload_n 1, 1) := by decide +kernel
theorem dX8_weight_8 : decode cX8_weight 8 = .ok (.invokevirtual 102, 3) := by decide +kernel
theorem dX8_weight_11 : decode cX8_weight 11 = .ok (.ifCond .eq 10, 3) := by decide +kernel
theorem dX8_weight_14 : decode cX8_weight 14 = .ok (.iload_n 2, 1) := by decide +kernel
theorem dX8_weight_15 : decode cX8_weight 15 = .ok (.invokestatic 119, 3) := by decide +kernel
theorem dX8_weight_18 : decode cX8_weight 18 = .ok (.ifCond .ne 7, 3) := by decide +kernel
theorem dX8_weight_21 : decode cX8_weight 21 = .ok (.ldc2_w 148, 3) := by decide +kernel
theorem dX8_weight_24 : decode cX8_weight 24 = .ok (.lreturn, 1) := by decide +kernel
theorem dX8_weight_25 : decode cX8_weight 25 = .ok (.aload_n 0, 1) := by decide +kernel
theorem dX8_weight_26 : decode cX8_weight 26 = .ok (.getfield 26, 3) := by decide +kernel
theorem dX8_weight_29 : decode cX8_weight 29 = .ok (.aload_n 0, 1) := by decide +kernel
theorem dX8_weight_30 : decode cX8_weight 30 = .ok (.getfield 10, 3) := by decide +kernel
theorem dX8_weight_33 : decode cX8_weight 33 = .ok (.iload_n 1, 1) := by decide +kernel
theorem dX8_weight_34 : decode cX8_weight 34 = .ok (.invokevirtual 150, 3) := by decide +kernel
theorem dX8_weight_37 : decode cX8_weight 37 = .ok (.aload_n 0, 1) := by decide +kernel
theorem dX8_weight_38 : decode cX8_weight 38 = .ok (.getfield 26, 3) := by decide +kernel
theorem dX8_weight_41 : decode cX8_weight 41 = .ok (.iload_n 2, 1) := by decide +kernel
theorem dX8_weight_42 : decode cX8_weight 42 = .ok (.invokevirtual 154, 3) := by decide +kernel
theorem dX8_weight_45 : decode cX8_weight 45 = .ok (.lreturn, 1) := by decide +kernel
theorem dX8_all_0 : decode cX8_all 0 = .ok (.aload_n 0, 1) := by decide +kernel
theorem dX8_all_1 : decode cX8_all 1 = .ok (.getfield 10, 3) := by decide +kernel
theorem dX8_all_4 : decode cX8_all 4 = .ok (.getfield 95, 3) := by decide +kernel
theorem dX8_all_7 : decode cX8_all 7 = .ok (.iload_n 1, 1) := by decide +kernel
theorem dX8_all_8 : decode cX8_all 8 = .ok (.invokevirtual 102, 3) := by decide +kernel
theorem dX8_all_11 : decode cX8_all 11 = .ok (.ifCond .ne 7, 3) := by decide +kernel
theorem dX8_all_14 : decode cX8_all 14 = .ok (.ldc2_w 148, 3) := by decide +kernel
theorem dX8_all_17 : decode cX8_all 17 = .ok (.lreturn, 1) := by decide +kernel
theorem dX8_all_18 : decode cX8_all 18 = .ok (.aload_n 0, 1) := by decide +kernel
theorem dX8_all_19 : decode cX8_all 19 = .ok (.getfield 26, 3) := by decide +kernel
theorem dX8_all_22 : decode cX8_all 22 = .ok (.aload_n 0, 1) := by decide +kernel
theorem dX8_all_23 : decode cX8_all 23 = .ok (.getfield 10, 3) := by decide +kernel
theorem dX8_all_26 : decode cX8_all 26 = .ok (.iload_n 1, 1) := by decide +kernel
theorem dX8_all_27 : decode cX8_all 27 = .ok (.invokevirtual 150, 3) := by decide +kernel
theorem dX8_all_30 : decode cX8_all 30 = .ok (.aload_n 0, 1) := by decide +kernel
theorem dX8_all_31 : decode cX8_all 31 = .ok (.getfield 26, 3) := by decide +kernel
theorem dX8_all_34 : decode cX8_all 34 = .ok (.getfield 158, 3) := by decide +kernel
theorem dX8_all_37 : decode cX8_all 37 = .ok (.lreturn, 1) := by decide +kernel
theorem dX8_best_0 : decode cX8_best 0 = .ok (.aload_n 0, 1) := by decide +kernel
theorem dX8_best_1 : decode cX8_best 1 = .ok (.getfield 10, 3) := by decide +kernel
theorem dX8_best_4 : decode cX8_best 4 = .ok (.getfield 95, 3) := by decide +kernel
theorem dX8_best_7 : decode cX8_best 7 = .ok (.iload_n 1, 1) := by decide +kernel
theorem dX8_best_8 : decode cX8_best 8 = .ok (.invokevirtual 102, 3) := by decide +kernel
theorem dX8_best_11 : decode cX8_best 11 = .ok (.ifCond .ne 5, 3) := by decide +kernel
theorem dX8_best_14 : decode cX8_best 14 = .ok (.iconst (-1), 1) := by decide +kernel
theorem dX8_best_15 : decode cX8_best 15 = .ok (.ireturn, 1) := by decide +kernel
theorem dX8_best_16 : decode cX8_best 16 = .ok (.aload_n 0, 1) := by decide +kernel
theorem dX8_best_17 : decode cX8_best 17 = .ok (.getfield 26, 3) := by decide +kernel
theorem dX8_best_20 : decode cX8_best 20 = .ok (.aload_n 0, 1) := by decide +kernel
theorem dX8_best_21 : decode cX8_best 21 = .ok (.getfield 10, 3) := by decide +kernel
theorem dX8_best_24 : decode cX8_best 24 = .ok (.iload_n 1, 1) := by decide +kernel
theorem dX8_best_25 : decode cX8_best 25 = .ok (.invokevirtual 150, 3) := by decide +kernel
theorem dX8_best_28 : decode cX8_best 28 = .ok (.aload_n 0, 1) := by decide +kernel
theorem dX8_best_29 : decode cX8_best 29 = .ok (.getfield 26, 3) := by decide +kernel
theorem dX8_best_32 : decode cX8_best 32 = .ok (.getfield 162, 3) := by decide +kernel
theorem dX8_best_35 : decode cX8_best 35 = .ok (.ireturn, 1) := by decide +kernel
theorem dX8_share_0 : decode cX8_share 0 = .ok (.aload_n 0, 1) := by decide +kernel
theorem dX8_share_1 : decode cX8_share 1 = .ok (.getfield 10, 3) := by decide +kernel
theorem dX8_share_4 : decode cX8_share 4 = .ok (.getfield 95, 3) := by decide +kernel
theorem dX8_share_7 : decode cX8_share 7 = .ok (.iload_n 1, 1) := by decide +kernel
theorem dX8_share_8 : decode cX8_share 8 = .ok (.invokevirtual 102, 3) := by decide +kernel
theorem dX8_share_11 : decode cX8_share 11 = .ok (.ifCond .eq 19, 3) := by decide +kernel
theorem dX8_share_14 : decode cX8_share 14 = .ok (.iload_n 2, 1) := by decide +kernel
theorem dX8_share_15 : decode cX8_share 15 = .ok (.invokestatic 119, 3) := by decide +kernel
theorem dX8_share_18 : decode cX8_share 18 = .ok (.ifCond .eq 12, 3) := by decide +kernel
theorem dX8_share_21 : decode cX8_share 21 = .ok (.iload_n 3, 1) := by decide +kernel
theorem dX8_share_22 : decode cX8_share 22 = .ok (.iconst 0, 1) := by decide +kernel
theorem dX8_share_23 : decode cX8_share 23 = .ok (.iconst 1, 1) := by decide +kernel
theorem dX8_share_24 : decode cX8_share 24 = .ok (.invokestatic 91, 3) := by decide +kernel
theorem dX8_share_27 : decode cX8_share 27 = .ok (.ifCond .ne 7, 3) := by decide +kernel
theorem dX8_share_30 : decode cX8_share 30 = .ok (.ldc2_w 148, 3) := by decide +kernel
theorem dX8_share_33 : decode cX8_share 33 = .ok (.lreturn, 1) := by decide +kernel
theorem dX8_share_34 : decode cX8_share 34 = .ok (.aload_n 0, 1) := by decide +kernel
theorem dX8_share_35 : decode cX8_share 35 = .ok (.getfield 26, 3) := by decide +kernel
theorem dX8_share_38 : decode cX8_share 38 = .ok (.aload_n 0, 1) := by decide +kernel
theorem dX8_share_39 : decode cX8_share 39 = .ok (.getfield 10, 3) := by decide +kernel
theorem dX8_share_42 : decode cX8_share 42 = .ok (.iload_n 1, 1) := by decide +kernel
theorem dX8_share_43 : decode cX8_share 43 = .ok (.invokevirtual 150, 3) := by decide +kernel
theorem dX8_share_46 : decode cX8_share 46 = .ok (.aload_n 0, 1) := by decide +kernel
theorem dX8_share_47 : decode cX8_share 47 = .ok (.getfield 26, 3) := by decide +kernel
theorem dX8_share_50 : decode cX8_share 50 = .ok (.getfield 158, 3) := by decide +kernel
theorem dX8_share_53 : decode cX8_share 53 = .ok (.lconst 0, 1) := by decide +kernel
theorem dX8_share_54 : decode cX8_share 54 = .ok (.lcmp, 1) := by decide +kernel
theorem dX8_share_55 : decode cX8_share 55 = .ok (.ifCond .gt 7, 3) := by decide +kernel
theorem dX8_share_58 : decode cX8_share 58 = .ok (.ldc2_w 165, 3) := by decide +kernel
theorem dX8_share_61 : decode cX8_share 61 = .ok (.lreturn, 1) := by decide +kernel
theorem dX8_share_62 : decode cX8_share 62 = .ok (.aload_n 0, 1) := by decide +kernel
theorem dX8_share_63 : decode cX8_share 63 = .ok (.getfield 26, 3) := by decide +kernel
theorem dX8_share_66 : decode cX8_share 66 = .ok (.iload_n 2, 1) := by decide +kernel
theorem dX8_share_67 : decode cX8_share 67 = .ok (.invokevirtual 167, 3) := by decide +kernel
theorem dX8_share_70 : decode cX8_share 70 = .ok (.lstore 4, 2) := by decide +kernel
theorem dX8_share_72 : decode cX8_share 72 = .ok (.lconst 1, 1) := by decide +kernel
theorem dX8_share_73 : decode cX8_share 73 = .ok (.lload 4, 2) := by decide +kernel
theorem dX8_share_75 : decode cX8_share 75 = .ok (.aload_n 0, 1) := by decide +kernel
theorem dX8_share_76 : decode cX8_share 76 = .ok (.getfield 26, 3) := by decide +kernel
theorem dX8_share_79 : decode cX8_share 79 = .ok (.getfield 158, 3) := by decide +kernel
theorem dX8_share_82 : decode cX8_share 82 = .ok (.invokestatic 170, 3) := by decide +kernel
theorem dX8_share_85 : decode cX8_share 85 = .ok (.invokestatic 174, 3) := by decide +kernel
theorem dX8_share_88 : decode cX8_share 88 = .ok (.lstore 6, 2) := by decide +kernel
theorem dX8_share_90 : decode cX8_share 90 = .ok (.iload_n 3, 1) := by decide +kernel
theorem dX8_share_91 : decode cX8_share 91 = .ok (.ifCond .ne 8, 3) := by decide +kernel
theorem dX8_share_94 : decode cX8_share 94 = .ok (.lload 4, 2) := by decide +kernel
theorem dX8_share_96 : decode cX8_share 96 = .ok (.goto 10, 3) := by decide +kernel
theorem dX8_share_99 : decode cX8_share 99 = .ok (.aload_n 0, 1) := by decide +kernel
theorem dX8_share_100 : decode cX8_share 100 = .ok (.getfield 26, 3) := by decide +kernel
theorem dX8_share_103 : decode cX8_share 103 = .ok (.getfield 158, 3) := by decide +kernel
theorem dX8_share_106 : decode cX8_share 106 = .ok (.lload 6, 2) := by decide +kernel
theorem dX8_share_108 : decode cX8_share 108 = .ok (.ldiv, 1) := by decide +kernel
theorem dX8_share_109 : decode cX8_share 109 = .ok (.lreturn, 1) := by decide +kernel
theorem dX8_greatestCommonDivisor_0 : decode cX8_greatestCommonDivisor 0 = .ok (.lload_n 0, 1) := by decide +kernel
theorem dX8_greatestCommonDivisor_1 : decode cX8_greatestCommonDivisor 1 = .ok (.lstore 4, 2) := by decide +kernel
theorem dX8_greatestCommonDivisor_3 : decode cX8_greatestCommonDivisor 3 = .ok (.lload_n 2, 1) := by decide +kernel
theorem dX8_greatestCommonDivisor_4 : decode cX8_greatestCommonDivisor 4 = .ok (.lstore 6, 2) := by decide +kernel
theorem dX8_greatestCommonDivisor_6 : decode cX8_greatestCommonDivisor 6 = .ok (.iconst 0, 1) := by decide +kernel
theorem dX8_greatestCommonDivisor_7 : decode cX8_greatestCommonDivisor 7 = .ok (.istore 8, 2) := by decide +kernel
theorem dX8_greatestCommonDivisor_9 : decode cX8_greatestCommonDivisor 9 = .ok (.iload 8, 2) := by decide +kernel
theorem dX8_greatestCommonDivisor_11 : decode cX8_greatestCommonDivisor 11 = .ok (.sipush 200, 3) := by decide +kernel
theorem dX8_greatestCommonDivisor_14 : decode cX8_greatestCommonDivisor 14 = .ok (.if_icmp .ge 31, 3) := by decide +kernel
theorem dX8_greatestCommonDivisor_17 : decode cX8_greatestCommonDivisor 17 = .ok (.lload 6, 2) := by decide +kernel
theorem dX8_greatestCommonDivisor_19 : decode cX8_greatestCommonDivisor 19 = .ok (.lconst 0, 1) := by decide +kernel
theorem dX8_greatestCommonDivisor_20 : decode cX8_greatestCommonDivisor 20 = .ok (.lcmp, 1) := by decide +kernel
theorem dX8_greatestCommonDivisor_21 : decode cX8_greatestCommonDivisor 21 = .ok (.ifCond .eq 24, 3) := by decide +kernel
theorem dX8_greatestCommonDivisor_24 : decode cX8_greatestCommonDivisor 24 = .ok (.lload 4, 2) := by decide +kernel
theorem dX8_greatestCommonDivisor_26 : decode cX8_greatestCommonDivisor 26 = .ok (.lload 6, 2) := by decide +kernel
theorem dX8_greatestCommonDivisor_28 : decode cX8_greatestCommonDivisor 28 = .ok (.lrem, 1) := by decide +kernel
theorem dX8_greatestCommonDivisor_29 : decode cX8_greatestCommonDivisor 29 = .ok (.lstore 9, 2) := by decide +kernel
theorem dX8_greatestCommonDivisor_31 : decode cX8_greatestCommonDivisor 31 = .ok (.lload 6, 2) := by decide +kernel
theorem dX8_greatestCommonDivisor_33 : decode cX8_greatestCommonDivisor 33 = .ok (.lstore 4, 2) := by decide +kernel
theorem dX8_greatestCommonDivisor_35 : decode cX8_greatestCommonDivisor 35 = .ok (.lload 9, 2) := by decide +kernel
theorem dX8_greatestCommonDivisor_37 : decode cX8_greatestCommonDivisor 37 = .ok (.lstore 6, 2) := by decide +kernel
theorem dX8_greatestCommonDivisor_39 : decode cX8_greatestCommonDivisor 39 = .ok (.iinc 8 1, 3) := by decide +kernel
theorem dX8_greatestCommonDivisor_42 : decode cX8_greatestCommonDivisor 42 = .ok (.goto (-33), 3) := by decide +kernel
theorem dX8_greatestCommonDivisor_45 : decode cX8_greatestCommonDivisor 45 = .ok (.lload 4, 2) := by decide +kernel
theorem dX8_greatestCommonDivisor_47 : decode cX8_greatestCommonDivisor 47 = .ok (.lreturn, 1) := by decide +kernel
theorem dX8_common_0 : decode cX8_common 0 = .ok (.aload_n 0, 1) := by decide +kernel
theorem dX8_common_1 : decode cX8_common 1 = .ok (.getfield 10, 3) := by decide +kernel
theorem dX8_common_4 : decode cX8_common 4 = .ok (.getfield 95, 3) := by decide +kernel
theorem dX8_common_7 : decode cX8_common 7 = .ok (.iload_n 1, 1) := by decide +kernel
theorem dX8_common_8 : decode cX8_common 8 = .ok (.invokevirtual 102, 3) := by decide +kernel
theorem dX8_common_11 : decode cX8_common 11 = .ok (.ifCond .eq 17, 3) := by decide +kernel
theorem dX8_common_14 : decode cX8_common 14 = .ok (.aload_n 0, 1) := by decide +kernel
theorem dX8_common_15 : decode cX8_common 15 = .ok (.getfield 10, 3) := by decide +kernel
theorem dX8_common_18 : decode cX8_common 18 = .ok (.getfield 95, 3) := by decide +kernel
theorem dX8_common_21 : decode cX8_common 21 = .ok (.iload_n 2, 1) := by decide +kernel
theorem dX8_common_22 : decode cX8_common 22 = .ok (.invokevirtual 102, 3) := by decide +kernel
theorem dX8_common_25 : decode cX8_common 25 = .ok (.ifCond .ne 5, 3) := by decide +kernel
theorem dX8_common_28 : decode cX8_common 28 = .ok (.iconst (-1), 1) := by decide +kernel
theorem dX8_common_29 : decode cX8_common 29 = .ok (.ireturn, 1) := by decide +kernel
theorem dX8_common_30 : decode cX8_common 30 = .ok (.iconst 0, 1) := by decide +kernel
theorem dX8_common_31 : decode cX8_common 31 = .ok (.istore_n 3, 1) := by decide +kernel
theorem dX8_common_32 : decode cX8_common 32 = .ok (.iconst 0, 1) := by decide +kernel
theorem dX8_common_33 : decode cX8_common 33 = .ok (.istore 4, 2) := by decide +kernel
theorem dX8_common_35 : decode cX8_common 35 = .ok (.iload 4, 2) := by decide +kernel
theorem dX8_common_37 : decode cX8_common 37 = .ok (.sipush 160, 3) := by decide +kernel
theorem dX8_common_40 : decode cX8_common 40 = .ok (.if_icmp .gt 38, 3) := by decide +kernel
theorem dX8_common_43 : decode cX8_common 43 = .ok (.aload_n 0, 1) := by decide +kernel
theorem dX8_common_44 : decode cX8_common 44 = .ok (.getfield 10, 3) := by decide +kernel
theorem dX8_common_47 : decode cX8_common 47 = .ok (.iload_n 1, 1) := by decide +kernel
theorem dX8_common_48 : decode cX8_common 48 = .ok (.iload 4, 2) := by decide +kernel
theorem dX8_common_50 : decode cX8_common 50 = .ok (.invokevirtual 179, 3) := by decide +kernel
theorem dX8_common_53 : decode cX8_common 53 = .ok (.ifCond .eq 19, 3) := by decide +kernel
theorem dX8_common_56 : decode cX8_common 56 = .ok (.aload_n 0, 1) := by decide +kernel
theorem dX8_common_57 : decode cX8_common 57 = .ok (.getfield 10, 3) := by decide +kernel
theorem dX8_common_60 : decode cX8_common 60 = .ok (.iload_n 2, 1) := by decide +kernel
theorem dX8_common_61 : decode cX8_common 61 = .ok (.iload 4, 2) := by decide +kernel
theorem dX8_common_63 : decode cX8_common 63 = .ok (.invokevirtual 179, 3) := by decide +kernel
theorem dX8_common_66 : decode cX8_common 66 = .ok (.ifCond .eq 6, 3) := by decide +kernel
theorem dX8_common_69 : decode cX8_common 69 = .ok (.iinc 3 1, 3) := by decide +kernel
theorem dX8_common_72 : decode cX8_common 72 = .ok (.iinc 4 1, 3) := by decide +kernel
theorem dX8_common_75 : decode cX8_common 75 = .ok (.goto (-40), 3) := by decide +kernel
theorem dX8_common_78 : decode cX8_common 78 = .ok (.iload_n 3, 1) := by decide +kernel
theorem dX8_common_79 : decode cX8_common 79 = .ok (.ireturn, 1) := by decide +kernel
theorem dX8_one_0 : decode cX8_one 0 = .ok (.iload_n 1, 1) := by decide +kernel
theorem dX8_one_1 : decode cX8_one 1 = .ok (.iload_n 2, 1) := by decide +kernel
theorem dX8_one_2 : decode cX8_one 2 = .ok (.if_icmp .eq 31, 3) := by decide +kernel
theorem dX8_one_5 : decode cX8_one 5 = .ok (.aload_n 0, 1) := by decide +kernel
theorem dX8_one_6 : decode cX8_one 6 = .ok (.getfield 10, 3) := by decide +kernel
theorem dX8_one_9 : decode cX8_one 9 = .ok (.getfield 95, 3) := by decide +kernel
theorem dX8_one_12 : decode cX8_one 12 = .ok (.iload_n 1, 1) := by decide +kernel
theorem dX8_one_13 : decode cX8_one 13 = .ok (.invokevirtual 102, 3) := by decide +kernel
theorem dX8_one_16 : decode cX8_one 16 = .ok (.ifCond .eq 17, 3) := by decide +kernel
theorem dX8_one_19 : decode cX8_one 19 = .ok (.aload_n 0, 1) := by decide +kernel
theorem dX8_one_20 : decode cX8_one 20 = .ok (.getfield 10, 3) := by decide +kernel
theorem dX8_one_23 : decode cX8_one 23 = .ok (.getfield 95, 3) := by decide +kernel
theorem dX8_one_26 : decode cX8_one 26 = .ok (.iload_n 2, 1) := by decide +kernel
theorem dX8_one_27 : decode cX8_one 27 = .ok (.invokevirtual 102, 3) := by decide +kernel
theorem dX8_one_30 : decode cX8_one 30 = .ok (.ifCond .ne 5, 3) := by decide +kernel
theorem dX8_one_33 : decode cX8_one 33 = .ok (.iconst (-1), 1) := by decide +kernel
theorem dX8_one_34 : decode cX8_one 34 = .ok (.ireturn, 1) := by decide +kernel
theorem dX8_one_35 : decode cX8_one 35 = .ok (.aload_n 0, 1) := by decide +kernel
theorem dX8_one_36 : decode cX8_one 36 = .ok (.getfield 10, 3) := by decide +kernel
theorem dX8_one_39 : decode cX8_one 39 = .ok (.getfield 95, 3) := by decide +kernel
theorem dX8_one_42 : decode cX8_one 42 = .ok (.iload_n 1, 1) := by decide +kernel
theorem dX8_one_43 : decode cX8_one 43 = .ok (.iconst 2, 1) := by decide +kernel
theorem dX8_one_44 : decode cX8_one 44 = .ok (.invokevirtual 105, 3) := by decide +kernel
theorem dX8_one_47 : decode cX8_one 47 = .ok (.aload_n 0, 1) := by decide +kernel
theorem dX8_one_48 : decode cX8_one 48 = .ok (.getfield 10, 3) := by decide +kernel
theorem dX8_one_51 : decode cX8_one 51 = .ok (.getfield 95, 3) := by decide +kernel
theorem dX8_one_54 : decode cX8_one 54 = .ok (.iload_n 2, 1) := by decide +kernel
theorem dX8_one_55 : decode cX8_one 55 = .ok (.iconst 2, 1) := by decide +kernel
theorem dX8_one_56 : decode cX8_one 56 = .ok (.invokevirtual 105, 3) := by decide +kernel
theorem dX8_one_59 : decode cX8_one 59 = .ok (.if_icmp .ne 7, 3) := by decide +kernel
theorem dX8_one_62 : decode cX8_one 62 = .ok (.iconst 1, 1) := by decide +kernel
theorem dX8_one_63 : decode cX8_one 63 = .ok (.goto 4, 3) := by decide +kernel
theorem dX8_one_66 : decode cX8_one 66 = .ok (.iconst 0, 1) := by decide +kernel
theorem dX8_one_67 : decode cX8_one 67 = .ok (.istore_n 3, 1) := by decide +kernel
theorem dX8_one_68 : decode cX8_one 68 = .ok (.aload_n 0, 1) := by decide +kernel
theorem dX8_one_69 : decode cX8_one 69 = .ok (.getfield 10, 3) := by decide +kernel
theorem dX8_one_72 : decode cX8_one 72 = .ok (.getfield 95, 3) := by decide +kernel
theorem dX8_one_75 : decode cX8_one 75 = .ok (.iload_n 1, 1) := by decide +kernel
theorem dX8_one_76 : decode cX8_one 76 = .ok (.iconst 1, 1) := by decide +kernel
theorem dX8_one_77 : decode cX8_one 77 = .ok (.invokevirtual 105, 3) := by decide +kernel
theorem dX8_one_80 : decode cX8_one 80 = .ok (.aload_n 0, 1) := by decide +kernel
theorem dX8_one_81 : decode cX8_one 81 = .ok (.getfield 10, 3) := by decide +kernel
theorem dX8_one_84 : decode cX8_one 84 = .ok (.getfield 95, 3) := by decide +kernel
theorem dX8_one_87 : decode cX8_one 87 = .ok (.iload_n 2, 1) := by decide +kernel
theorem dX8_one_88 : decode cX8_one 88 = .ok (.iconst 1, 1) := by decide +kernel
theorem dX8_one_89 : decode cX8_one 89 = .ok (.invokevirtual 105, 3) := by decide +kernel
theorem dX8_one_92 : decode cX8_one 92 = .ok (.if_icmp .ne 7, 3) := by decide +kernel
theorem dX8_one_95 : decode cX8_one 95 = .ok (.iconst 1, 1) := by decide +kernel
theorem dX8_one_96 : decode cX8_one 96 = .ok (.goto 4, 3) := by decide +kernel
theorem dX8_one_99 : decode cX8_one 99 = .ok (.iconst 0, 1) := by decide +kernel
theorem dX8_one_100 : decode cX8_one 100 = .ok (.istore 4, 2) := by decide +kernel
theorem dX8_one_102 : decode cX8_one 102 = .ok (.aload_n 0, 1) := by decide +kernel
theorem dX8_one_103 : decode cX8_one 103 = .ok (.getfield 10, 3) := by decide +kernel
theorem dX8_one_106 : decode cX8_one 106 = .ok (.getfield 95, 3) := by decide +kernel
theorem dX8_one_109 : decode cX8_one 109 = .ok (.iload_n 1, 1) := by decide +kernel
theorem dX8_one_110 : decode cX8_one 110 = .ok (.iconst 0, 1) := by decide +kernel
theorem dX8_one_111 : decode cX8_one 111 = .ok (.invokevirtual 105, 3) := by decide +kernel
theorem dX8_one_114 : decode cX8_one 114 = .ok (.aload_n 0, 1) := by decide +kernel
theorem dX8_one_115 : decode cX8_one 115 = .ok (.getfield 10, 3) := by decide +kernel
theorem dX8_one_118 : decode cX8_one 118 = .ok (.getfield 95, 3) := by decide +kernel
theorem dX8_one_121 : decode cX8_one 121 = .ok (.iload_n 2, 1) := by decide +kernel
theorem dX8_one_122 : decode cX8_one 122 = .ok (.iconst 0, 1) := by decide +kernel
theorem dX8_one_123 : decode cX8_one 123 = .ok (.invokevirtual 105, 3) := by decide +kernel
theorem dX8_one_126 : decode cX8_one 126 = .ok (.if_icmp .ne 7, 3) := by decide +kernel
theorem dX8_one_129 : decode cX8_one 129 = .ok (.iconst 1, 1) := by decide +kernel
theorem dX8_one_130 : decode cX8_one 130 = .ok (.goto 4, 3) := by decide +kernel
theorem dX8_one_133 : decode cX8_one 133 = .ok (.iconst 0, 1) := by decide +kernel
theorem dX8_one_134 : decode cX8_one 134 = .ok (.istore 5, 2) := by decide +kernel
theorem dX8_one_136 : decode cX8_one 136 = .ok (.iload_n 3, 1) := by decide +kernel
theorem dX8_one_137 : decode cX8_one 137 = .ok (.ifCond .eq 26, 3) := by decide +kernel
theorem dX8_one_140 : decode cX8_one 140 = .ok (.iload 4, 2) := by decide +kernel
theorem dX8_one_142 : decode cX8_one 142 = .ok (.ifCond .ne 8, 3) := by decide +kernel
theorem dX8_one_145 : decode cX8_one 145 = .ok (.iload 5, 2) := by decide +kernel
theorem dX8_one_147 : decode cX8_one 147 = .ok (.ifCond .eq 16, 3) := by decide +kernel
theorem dX8_one_150 : decode cX8_one 150 = .ok (.aload_n 0, 1) := by decide +kernel
theorem dX8_one_151 : decode cX8_one 151 = .ok (.iload_n 1, 1) := by decide +kernel
theorem dX8_one_152 : decode cX8_one 152 = .ok (.iload_n 2, 1) := by decide +kernel
theorem dX8_one_153 : decode cX8_one 153 = .ok (.invokevirtual 182, 3) := by decide +kernel
theorem dX8_one_156 : decode cX8_one 156 = .ok (.ifCond .le 7, 3) := by decide +kernel
theorem dX8_one_159 : decode cX8_one 159 = .ok (.iconst 1, 1) := by decide +kernel
theorem dX8_one_160 : decode cX8_one 160 = .ok (.goto 4, 3) := by decide +kernel
theorem dX8_one_163 : decode cX8_one 163 = .ok (.iconst 0, 1) := by decide +kernel
theorem dX8_one_164 : decode cX8_one 164 = .ok (.ireturn, 1) := by decide +kernel
theorem dX8_cut_0 : decode cX8_cut 0 = .ok (.aload_n 0, 1) := by decide +kernel
theorem dX8_cut_1 : decode cX8_cut 1 = .ok (.getfield 10, 3) := by decide +kernel
theorem dX8_cut_4 : decode cX8_cut 4 = .ok (.getfield 95, 3) := by decide +kernel
theorem dX8_cut_7 : decode cX8_cut 7 = .ok (.iload_n 1, 1) := by decide +kernel
theorem dX8_cut_8 : decode cX8_cut 8 = .ok (.invokevirtual 102, 3) := by decide +kernel
theorem dX8_cut_11 : decode cX8_cut 11 = .ok (.ifCond .ne 5, 3) := by decide +kernel
theorem dX8_cut_14 : decode cX8_cut 14 = .ok (.iconst (-1), 1) := by decide +kernel
theorem dX8_cut_15 : decode cX8_cut 15 = .ok (.ireturn, 1) := by decide +kernel
theorem dX8_cut_16 : decode cX8_cut 16 = .ok (.aload_n 0, 1) := by decide +kernel
theorem dX8_cut_17 : decode cX8_cut 17 = .ok (.getfield 10, 3) := by decide +kernel
theorem dX8_cut_20 : decode cX8_cut 20 = .ok (.iload_n 1, 1) := by decide +kernel
theorem dX8_cut_21 : decode cX8_cut 21 = .ok (.invokevirtual 113, 3) := by decide +kernel
theorem dX8_cut_24 : decode cX8_cut 24 = .ok (.istore_n 2, 1) := by decide +kernel
theorem dX8_cut_25 : decode cX8_cut 25 = .ok (.iconst 0, 1) := by decide +kernel
theorem dX8_cut_26 : decode cX8_cut 26 = .ok (.istore_n 3, 1) := by decide +kernel
theorem dX8_cut_27 : decode cX8_cut 27 = .ok (.iload_n 3, 1) := by decide +kernel
theorem dX8_cut_28 : decode cX8_cut 28 = .ok (.iload_n 2, 1) := by decide +kernel
theorem dX8_cut_29 : decode cX8_cut 29 = .ok (.if_icmp .ge 53, 3) := by decide +kernel
theorem dX8_cut_32 : decode cX8_cut 32 = .ok (.iload_n 3, 1) := by decide +kernel
theorem dX8_cut_33 : decode cX8_cut 33 = .ok (.ifCond .eq 16, 3) := by decide +kernel
theorem dX8_cut_36 : decode cX8_cut 36 = .ok (.aload_n 0, 1) := by decide +kernel
theorem dX8_cut_37 : decode cX8_cut 37 = .ok (.getfield 10, 3) := by decide +kernel
theorem dX8_cut_40 : decode cX8_cut 40 = .ok (.iload_n 1, 1) := by decide +kernel
theorem dX8_cut_41 : decode cX8_cut 41 = .ok (.iconst 0, 1) := by decide +kernel
theorem dX8_cut_42 : decode cX8_cut 42 = .ok (.iload_n 3, 1) := by decide +kernel
theorem dX8_cut_43 : decode cX8_cut 43 = .ok (.invokevirtual 185, 3) := by decide +kernel
theorem dX8_cut_46 : decode cX8_cut 46 = .ok (.ifCond .eq 7, 3) := by decide +kernel
theorem dX8_cut_49 : decode cX8_cut 49 = .ok (.iconst 1, 1) := by decide +kernel
theorem dX8_cut_50 : decode cX8_cut 50 = .ok (.goto 4, 3) := by decide +kernel
theorem dX8_cut_53 : decode cX8_cut 53 = .ok (.iconst 0, 1) := by decide +kernel
theorem dX8_cut_54 : decode cX8_cut 54 = .ok (.istore 4, 2) := by decide +kernel
theorem dX8_cut_56 : decode cX8_cut 56 = .ok (.iload 4, 2) := by decide +kernel
theorem dX8_cut_58 : decode cX8_cut 58 = .ok (.ifCond .eq 18, 3) := by decide +kernel
theorem dX8_cut_61 : decode cX8_cut 61 = .ok (.aload_n 0, 1) := by decide +kernel
theorem dX8_cut_62 : decode cX8_cut 62 = .ok (.getfield 10, 3) := by decide +kernel
theorem dX8_cut_65 : decode cX8_cut 65 = .ok (.iload_n 1, 1) := by decide +kernel
theorem dX8_cut_66 : decode cX8_cut 66 = .ok (.iload_n 3, 1) := by decide +kernel
theorem dX8_cut_67 : decode cX8_cut 67 = .ok (.iload_n 2, 1) := by decide +kernel
theorem dX8_cut_68 : decode cX8_cut 68 = .ok (.invokevirtual 185, 3) := by decide +kernel
theorem dX8_cut_71 : decode cX8_cut 71 = .ok (.ifCond .eq 5, 3) := by decide +kernel
theorem dX8_cut_74 : decode cX8_cut 74 = .ok (.iload_n 3, 1) := by decide +kernel
theorem dX8_cut_75 : decode cX8_cut 75 = .ok (.ireturn, 1) := by decide +kernel
theorem dX8_cut_76 : decode cX8_cut 76 = .ok (.iinc 3 1, 3) := by decide +kernel
theorem dX8_cut_79 : decode cX8_cut 79 = .ok (.goto (-52), 3) := by decide +kernel
theorem dX8_cut_82 : decode cX8_cut 82 = .ok (.bipush (-3), 2) := by decide +kernel
theorem dX8_cut_84 : decode cX8_cut 84 = .ok (.ireturn, 1) := by decide +kernel
theorem dX8_rest_0 : decode cX8_rest 0 = .ok (.iload_n 1, 1) := by decide +kernel
theorem dX8_rest_1 : decode cX8_rest 1 = .ok (.iload_n 2, 1) := by decide +kernel
theorem dX8_rest_2 : decode cX8_rest 2 = .ok (.if_icmp .eq 31, 3) := by decide +kernel
theorem dX8_rest_5 : decode cX8_rest 5 = .ok (.aload_n 0, 1) := by decide +kernel
theorem dX8_rest_6 : decode cX8_rest 6 = .ok (.getfield 10, 3) := by decide +kernel
theorem dX8_rest_9 : decode cX8_rest 9 = .ok (.getfield 122, 3) := by decide +kernel
theorem dX8_rest_12 : decode cX8_rest 12 = .ok (.iload_n 1, 1) := by decide +kernel
theorem dX8_rest_13 : decode cX8_rest 13 = .ok (.invokevirtual 102, 3) := by decide +kernel
theorem dX8_rest_16 : decode cX8_rest 16 = .ok (.ifCond .eq 17, 3) := by decide +kernel
theorem dX8_rest_19 : decode cX8_rest 19 = .ok (.aload_n 0, 1) := by decide +kernel
theorem dX8_rest_20 : decode cX8_rest 20 = .ok (.getfield 10, 3) := by decide +kernel
theorem dX8_rest_23 : decode cX8_rest 23 = .ok (.getfield 122, 3) := by decide +kernel
theorem dX8_rest_26 : decode cX8_rest 26 = .ok (.iload_n 2, 1) := by decide +kernel
theorem dX8_rest_27 : decode cX8_rest 27 = .ok (.invokevirtual 102, 3) := by decide +kernel
theorem dX8_rest_30 : decode cX8_rest 30 = .ok (.ifCond .ne 5, 3) := by decide +kernel
theorem dX8_rest_33 : decode cX8_rest 33 = .ok (.iconst (-1), 1) := by decide +kernel
theorem dX8_rest_34 : decode cX8_rest 34 = .ok (.ireturn, 1) := by decide +kernel
theorem dX8_rest_35 : decode cX8_rest 35 = .ok (.aload_n 0, 1) := by decide +kernel
theorem dX8_rest_36 : decode cX8_rest 36 = .ok (.getfield 10, 3) := by decide +kernel
theorem dX8_rest_39 : decode cX8_rest 39 = .ok (.getfield 122, 3) := by decide +kernel
theorem dX8_rest_42 : decode cX8_rest 42 = .ok (.iload_n 1, 1) := by decide +kernel
theorem dX8_rest_43 : decode cX8_rest 43 = .ok (.bipush 6, 2) := by decide +kernel
theorem dX8_rest_45 : decode cX8_rest 45 = .ok (.invokevirtual 105, 3) := by decide +kernel
theorem dX8_rest_48 : decode cX8_rest 48 = .ok (.istore_n 3, 1) := by decide +kernel
theorem dX8_rest_49 : decode cX8_rest 49 = .ok (.iload_n 3, 1) := by decide +kernel
theorem dX8_rest_50 : decode cX8_rest 50 = .ok (.iload_n 2, 1) := by decide +kernel
theorem dX8_rest_51 : decode cX8_rest 51 = .ok (.invokestatic 188, 3) := by decide +kernel
theorem dX8_rest_54 : decode cX8_rest 54 = .ok (.iand, 1) := by decide +kernel
theorem dX8_rest_55 : decode cX8_rest 55 = .ok (.ifCond .eq 6, 3) := by decide +kernel
theorem dX8_rest_58 : decode cX8_rest 58 = .ok (.bipush (-4), 2) := by decide +kernel
theorem dX8_rest_60 : decode cX8_rest 60 = .ok (.ireturn, 1) := by decide +kernel
theorem dX8_rest_61 : decode cX8_rest 61 = .ok (.aload_n 0, 1) := by decide +kernel
theorem dX8_rest_62 : decode cX8_rest 62 = .ok (.getfield 10, 3) := by decide +kernel
theorem dX8_rest_65 : decode cX8_rest 65 = .ok (.getfield 191, 3) := by decide +kernel
theorem dX8_rest_68 : decode cX8_rest 68 = .ok (.bipush 40, 2) := by decide +kernel
theorem dX8_rest_70 : decode cX8_rest 70 = .ok (.if_icmp .lt 6, 3) := by decide +kernel
theorem dX8_rest_73 : decode cX8_rest 73 = .ok (.bipush (-2), 2) := by decide +kernel
theorem dX8_rest_75 : decode cX8_rest 75 = .ok (.ireturn, 1) := by decide +kernel
theorem dX8_rest_76 : decode cX8_rest 76 = .ok (.aload_n 0, 1) := by decide +kernel
theorem dX8_rest_77 : decode cX8_rest 77 = .ok (.getfield 10, 3) := by decide +kernel
theorem dX8_rest_80 : decode cX8_rest 80 = .ok (.getfield 122, 3) := by decide +kernel
theorem dX8_rest_83 : decode cX8_rest 83 = .ok (.iload_n 1, 1) := by decide +kernel
theorem dX8_rest_84 : decode cX8_rest 84 = .ok (.bipush 6, 2) := by decide +kernel
theorem dX8_rest_86 : decode cX8_rest 86 = .ok (.iload_n 3, 1) := by decide +kernel
theorem dX8_rest_87 : decode cX8_rest 87 = .ok (.iload_n 2, 1) := by decide +kernel
theorem dX8_rest_88 : decode cX8_rest 88 = .ok (.invokestatic 188, 3) := by decide +kernel
theorem dX8_rest_91 : decode cX8_rest 91 = .ok (.ior, 1) := by decide +kernel
theorem dX8_rest_92 : decode cX8_rest 92 = .ok (.invokevirtual 83, 3) := by decide +kernel
theorem dX8_rest_95 : decode cX8_rest 95 = .ok (.aload_n 0, 1) := by decide +kernel
theorem dX8_rest_96 : decode cX8_rest 96 = .ok (.getfield 10, 3) := by decide +kernel
theorem dX8_rest_99 : decode cX8_rest 99 = .ok (.dup, 1) := by decide +kernel
theorem dX8_rest_100 : decode cX8_rest 100 = .ok (.getfield 191, 3) := by decide +kernel
theorem dX8_rest_103 : decode cX8_rest 103 = .ok (.iconst 1, 1) := by decide +kernel
theorem dX8_rest_104 : decode cX8_rest 104 = .ok (.iadd, 1) := by decide +kernel
theorem dX8_rest_105 : decode cX8_rest 105 = .ok (.putfield 191, 3) := by decide +kernel
theorem dX8_rest_108 : decode cX8_rest 108 = .ok (.aload_n 0, 1) := by decide +kernel
theorem dX8_rest_109 : decode cX8_rest 109 = .ok (.getfield 10, 3) := by decide +kernel
theorem dX8_rest_112 : decode cX8_rest 112 = .ok (.getfield 191, 3) := by decide +kernel
theorem dX8_rest_115 : decode cX8_rest 115 = .ok (.ireturn, 1) := by decide +kernel
theorem dX8_stands_0 : decode cX8_stands 0 = .ok (.aload_n 0, 1) := by decide +kernel
theorem dX8_stands_1 : decode cX8_stands 1 = .ok (.getfield 10, 3) := by decide +kernel
theorem dX8_stands_4 : decode cX8_stands 4 = .ok (.invokevirtual 194, 3) := by decide +kernel
theorem dX8_stands_7 : decode cX8_stands 7 = .ok (.ireturn, 1) := by decide +kernel
theorem dX8_round_0 : decode cX8_round 0 = .ok (.aload_n 0, 1) := by decide +kernel
theorem dX8_round_1 : decode cX8_round 1 = .ok (.getfield 10, 3) := by decide +kernel
theorem dX8_round_4 : decode cX8_round 4 = .ok (.getfield 122, 3) := by decide +kernel
theorem dX8_round_7 : decode cX8_round 7 = .ok (.iload_n 1, 1) := by decide +kernel
theorem dX8_round_8 : decode cX8_round 8 = .ok (.invokevirtual 102, 3) := by decide +kernel
theorem dX8_round_11 : decode cX8_round 11 = .ok (.ifCond .ne 5, 3) := by decide +kernel
theorem dX8_round_14 : decode cX8_round 14 = .ok (.iconst (-1), 1) := by decide +kernel
theorem dX8_round_15 : decode cX8_round 15 = .ok (.ireturn, 1) := by decide +kernel
theorem dX8_round_16 : decode cX8_round 16 = .ok (.aload_n 0, 1) := by decide +kernel
theorem dX8_round_17 : decode cX8_round 17 = .ok (.getfield 10, 3) := by decide +kernel
theorem dX8_round_20 : decode cX8_round 20 = .ok (.iload_n 1, 1) := by decide +kernel
theorem dX8_round_21 : decode cX8_round 21 = .ok (.invokevirtual 197, 3) := by decide +kernel
theorem dX8_round_24 : decode cX8_round 24 = .ok (.iload_n 1, 1) := by decide +kernel
theorem dX8_round_25 : decode cX8_round 25 = .ok (.invokestatic 188, 3) := by decide +kernel
theorem dX8_round_28 : decode cX8_round 28 = .ok (.iand, 1) := by decide +kernel
theorem dX8_round_29 : decode cX8_round 29 = .ok (.ifCond .eq 7, 3) := by decide +kernel
theorem dX8_round_32 : decode cX8_round 32 = .ok (.iconst 1, 1) := by decide +kernel
theorem dX8_round_33 : decode cX8_round 33 = .ok (.goto 4, 3) := by decide +kernel
theorem dX8_round_36 : decode cX8_round 36 = .ok (.iconst 0, 1) := by decide +kernel
theorem dX8_round_37 : decode cX8_round 37 = .ok (.ireturn, 1) := by decide +kernel
theorem dX8_roots_0 : decode cX8_roots 0 = .ok (.aload_n 0, 1) := by decide +kernel
theorem dX8_roots_1 : decode cX8_roots 1 = .ok (.getfield 10, 3) := by decide +kernel
theorem dX8_roots_4 : decode cX8_roots 4 = .ok (.getfield 122, 3) := by decide +kernel
theorem dX8_roots_7 : decode cX8_roots 7 = .ok (.iload_n 1, 1) := by decide +kernel
theorem dX8_roots_8 : decode cX8_roots 8 = .ok (.invokevirtual 102, 3) := by decide +kernel
theorem dX8_roots_11 : decode cX8_roots 11 = .ok (.ifCond .ne 5, 3) := by decide +kernel
theorem dX8_roots_14 : decode cX8_roots 14 = .ok (.iconst (-1), 1) := by decide +kernel
theorem dX8_roots_15 : decode cX8_roots 15 = .ok (.ireturn, 1) := by decide +kernel
theorem dX8_roots_16 : decode cX8_roots 16 = .ok (.aload_n 0, 1) := by decide +kernel
theorem dX8_roots_17 : decode cX8_roots 17 = .ok (.getfield 10, 3) := by decide +kernel
theorem dX8_roots_20 : decode cX8_roots 20 = .ok (.iload_n 1, 1) := by decide +kernel
theorem dX8_roots_21 : decode cX8_roots 21 = .ok (.invokevirtual 197, 3) := by decide +kernel
theorem dX8_roots_24 : decode cX8_roots 24 = .ok (.iload_n 1, 1) := by decide +kernel
theorem dX8_roots_25 : decode cX8_roots 25 = .ok (.invokestatic 188, 3) := by decide +kernel
theorem dX8_roots_28 : decode cX8_roots 28 = .ok (.ior, 1) := by decide +kernel
theorem dX8_roots_29 : decode cX8_roots 29 = .ok (.aload_n 0, 1) := by decide +kernel
theorem dX8_roots_30 : decode cX8_roots 30 = .ok (.getfield 10, 3) := by decide +kernel
theorem dX8_roots_33 : decode cX8_roots 33 = .ok (.invokevirtual 200, 3) := by decide +kernel
theorem dX8_roots_36 : decode cX8_roots 36 = .ok (.iand, 1) := by decide +kernel
theorem dX8_roots_37 : decode cX8_roots 37 = .ok (.ireturn, 1) := by decide +kernel
theorem dX8_feed_0 : decode cX8_feed 0 = .ok (.iload_n 3, 1) := by decide +kernel
theorem dX8_feed_1 : decode cX8_feed 1 = .ok (.iconst 1, 1) := by decide +kernel
theorem dX8_feed_2 : decode cX8_feed 2 = .ok (.bipush 8, 2) := by decide +kernel
theorem dX8_feed_4 : decode cX8_feed 4 = .ok (.invokestatic 91, 3) := by decide +kernel
theorem dX8_feed_7 : decode cX8_feed 7 = .ok (.ifCond .ne 5, 3) := by decide +kernel
theorem dX8_feed_10 : decode cX8_feed 10 = .ok (.iconst (-1), 1) := by decide +kernel
theorem dX8_feed_11 : decode cX8_feed 11 = .ok (.ireturn, 1) := by decide +kernel
theorem dX8_feed_12 : decode cX8_feed 12 = .ok (.aload_n 0, 1) := by decide +kernel
theorem dX8_feed_13 : decode cX8_feed 13 = .ok (.getfield 49, 3) := by decide +kernel
theorem dX8_feed_16 : decode cX8_feed 16 = .ok (.getfield 203, 3) := by decide +kernel
theorem dX8_feed_19 : decode cX8_feed 19 = .ok (.iload_n 3, 1) := by decide +kernel
theorem dX8_feed_20 : decode cX8_feed 20 = .ok (.iadd, 1) := by decide +kernel
theorem dX8_feed_21 : decode cX8_feed 21 = .ok (.sipush 200, 3) := by decide +kernel
theorem dX8_feed_24 : decode cX8_feed 24 = .ok (.if_icmp .le 6, 3) := by decide +kernel
theorem dX8_feed_27 : decode cX8_feed 27 = .ok (.bipush (-2), 2) := by decide +kernel
theorem dX8_feed_29 : decode cX8_feed 29 = .ok (.ireturn, 1) := by decide +kernel
theorem dX8_feed_30 : decode cX8_feed 30 = .ok (.iconst 0, 1) := by decide +kernel
theorem dX8_feed_31 : decode cX8_feed 31 = .ok (.istore 4, 2) := by decide +kernel
theorem dX8_feed_33 : decode cX8_feed 33 = .ok (.iload 4, 2) := by decide +kernel
theorem dX8_feed_35 : decode cX8_feed 35 = .ok (.iload_n 3, 1) := by decide +kernel
theorem dX8_feed_36 : decode cX8_feed 36 = .ok (.if_icmp .ge 28, 3) := by decide +kernel
theorem dX8_feed_39 : decode cX8_feed 39 = .ok (.aload_n 0, 1) := by decide +kernel
theorem dX8_feed_40 : decode cX8_feed 40 = .ok (.getfield 49, 3) := by decide +kernel
theorem dX8_feed_43 : decode cX8_feed 43 = .ok (.lload_n 1, 1) := by decide +kernel
theorem dX8_feed_44 : decode cX8_feed 44 = .ok (.bipush 8, 2) := by decide +kernel
theorem dX8_feed_46 : decode cX8_feed 46 = .ok (.iload 4, 2) := by decide +kernel
theorem dX8_feed_48 : decode cX8_feed 48 = .ok (.imul, 1) := by decide +kernel
theorem dX8_feed_49 : decode cX8_feed 49 = .ok (.lshr, 1) := by decide +kernel
theorem dX8_feed_50 : decode cX8_feed 50 = .ok (.l2i, 1) := by decide +kernel
theorem dX8_feed_51 : decode cX8_feed 51 = .ok (.sipush 255, 3) := by decide +kernel
theorem dX8_feed_54 : decode cX8_feed 54 = .ok (.iand, 1) := by decide +kernel
theorem dX8_feed_55 : decode cX8_feed 55 = .ok (.invokevirtual 206, 3) := by decide +kernel
theorem dX8_feed_58 : decode cX8_feed 58 = .ok (.iinc 4 1, 3) := by decide +kernel
theorem dX8_feed_61 : decode cX8_feed 61 = .ok (.goto (-28), 3) := by decide +kernel
theorem dX8_feed_64 : decode cX8_feed 64 = .ok (.aload_n 0, 1) := by decide +kernel
theorem dX8_feed_65 : decode cX8_feed 65 = .ok (.getfield 49, 3) := by decide +kernel
theorem dX8_feed_68 : decode cX8_feed 68 = .ok (.getfield 203, 3) := by decide +kernel
theorem dX8_feed_71 : decode cX8_feed 71 = .ok (.ireturn, 1) := by decide +kernel
theorem dX8_read_0 : decode cX8_read 0 = .ok (.aload_n 0, 1) := by decide +kernel
theorem dX8_read_1 : decode cX8_read 1 = .ok (.getfield 40, 3) := by decide +kernel
theorem dX8_read_4 : decode cX8_read 4 = .ok (.aload_n 0, 1) := by decide +kernel
theorem dX8_read_5 : decode cX8_read 5 = .ok (.getfield 49, 3) := by decide +kernel
theorem dX8_read_8 : decode cX8_read 8 = .ok (.invokevirtual 209, 3) := by decide +kernel
theorem dX8_read_11 : decode cX8_read 11 = .ok (.istore_n 1, 1) := by decide +kernel
theorem dX8_read_12 : decode cX8_read 12 = .ok (.aload_n 0, 1) := by decide +kernel
theorem dX8_read_13 : decode cX8_read 13 = .ok (.getfield 49, 3) := by decide +kernel
theorem dX8_read_16 : decode cX8_read 16 = .ok (.invokevirtual 213, 3) := by decide +kernel
theorem dX8_read_19 : decode cX8_read 19 = .ok (.iload_n 1, 1) := by decide +kernel
theorem dX8_read_20 : decode cX8_read 20 = .ok (.bipush (-3), 2) := by decide +kernel
theorem dX8_read_22 : decode cX8_read 22 = .ok (.if_icmp .eq 8, 3) := by decide +kernel
theorem dX8_read_25 : decode cX8_read 25 = .ok (.bipush (-100), 2) := by decide +kernel
theorem dX8_read_27 : decode cX8_read 27 = .ok (.iload_n 1, 1) := by decide +kernel
theorem dX8_read_28 : decode cX8_read 28 = .ok (.isub, 1) := by decide +kernel
theorem dX8_read_29 : decode cX8_read 29 = .ok (.ireturn, 1) := by decide +kernel
theorem dX8_read_30 : decode cX8_read 30 = .ok (.aload_n 0, 1) := by decide +kernel
theorem dX8_read_31 : decode cX8_read 31 = .ok (.getfield 10, 3) := by decide +kernel
theorem dX8_read_34 : decode cX8_read 34 = .ok (.getfield 216, 3) := by decide +kernel
theorem dX8_read_37 : decode cX8_read 37 = .ok (.aload_n 0, 1) := by decide +kernel
theorem dX8_read_38 : decode cX8_read 38 = .ok (.getfield 40, 3) := by decide +kernel
theorem dX8_read_41 : decode cX8_read 41 = .ok (.getfield 219, 3) := by decide +kernel
theorem dX8_read_44 : decode cX8_read 44 = .ok (.invokevirtual 220, 3) := by decide +kernel
theorem dX8_read_47 : decode cX8_read 47 = .ok (.aload_n 0, 1) := by decide +kernel
theorem dX8_read_48 : decode cX8_read 48 = .ok (.getfield 10, 3) := by decide +kernel
theorem dX8_read_51 : decode cX8_read 51 = .ok (.getfield 224, 3) := by decide +kernel
theorem dX8_read_54 : decode cX8_read 54 = .ok (.aload_n 0, 1) := by decide +kernel
theorem dX8_read_55 : decode cX8_read 55 = .ok (.getfield 40, 3) := by decide +kernel
theorem dX8_read_58 : decode cX8_read 58 = .ok (.getfield 227, 3) := by decide +kernel
theorem dX8_read_61 : decode cX8_read 61 = .ok (.invokevirtual 220, 3) := by decide +kernel
theorem dX8_read_64 : decode cX8_read 64 = .ok (.aload_n 0, 1) := by decide +kernel
theorem dX8_read_65 : decode cX8_read 65 = .ok (.getfield 10, 3) := by decide +kernel
theorem dX8_read_68 : decode cX8_read 68 = .ok (.getfield 216, 3) := by decide +kernel
theorem dX8_read_71 : decode cX8_read 71 = .ok (.getfield 228, 3) := by decide +kernel
theorem dX8_read_74 : decode cX8_read 74 = .ok (.ireturn, 1) := by decide +kernel
theorem dX8_takes_0 : decode cX8_takes 0 = .ok (.aload_n 0, 1) := by decide +kernel
theorem dX8_takes_1 : decode cX8_takes 1 = .ok (.getfield 10, 3) := by decide +kernel
theorem dX8_takes_4 : decode cX8_takes 4 = .ok (.getfield 95, 3) := by decide +kernel
theorem dX8_takes_7 : decode cX8_takes 7 = .ok (.iload_n 1, 1) := by decide +kernel
theorem dX8_takes_8 : decode cX8_takes 8 = .ok (.invokevirtual 102, 3) := by decide +kernel
theorem dX8_takes_11 : decode cX8_takes 11 = .ok (.ifCond .ne 5, 3) := by decide +kernel
theorem dX8_takes_14 : decode cX8_takes 14 = .ok (.iconst (-1), 1) := by decide +kernel
theorem dX8_takes_15 : decode cX8_takes 15 = .ok (.ireturn, 1) := by decide +kernel
theorem dX8_takes_16 : decode cX8_takes 16 = .ok (.aload_n 0, 1) := by decide +kernel
theorem dX8_takes_17 : decode cX8_takes 17 = .ok (.getfield 33, 3) := by decide +kernel
theorem dX8_takes_20 : decode cX8_takes 20 = .ok (.aload_n 0, 1) := by decide +kernel
theorem dX8_takes_21 : decode cX8_takes 21 = .ok (.getfield 10, 3) := by decide +kernel
theorem dX8_takes_24 : decode cX8_takes 24 = .ok (.aload_n 0, 1) := by decide +kernel
theorem dX8_takes_25 : decode cX8_takes 25 = .ok (.getfield 26, 3) := by decide +kernel
theorem dX8_takes_28 : decode cX8_takes 28 = .ok (.iload_n 1, 1) := by decide +kernel
theorem dX8_takes_29 : decode cX8_takes 29 = .ok (.invokevirtual 229, 3) := by decide +kernel
theorem dX8_takes_32 : decode cX8_takes 32 = .ok (.ifCond .eq 7, 3) := by decide +kernel
theorem dX8_takes_35 : decode cX8_takes 35 = .ok (.iconst 1, 1) := by decide +kernel
theorem dX8_takes_36 : decode cX8_takes 36 = .ok (.goto 4, 3) := by decide +kernel
theorem dX8_takes_39 : decode cX8_takes 39 = .ok (.iconst 0, 1) := by decide +kernel
theorem dX8_takes_40 : decode cX8_takes 40 = .ok (.ireturn, 1) := by decide +kernel
theorem dX8_clause_0 : decode cX8_clause 0 = .ok (.aload_n 0, 1) := by decide +kernel
theorem dX8_clause_1 : decode cX8_clause 1 = .ok (.getfield 10, 3) := by decide +kernel
theorem dX8_clause_4 : decode cX8_clause 4 = .ok (.getfield 95, 3) := by decide +kernel
theorem dX8_clause_7 : decode cX8_clause 7 = .ok (.iload_n 1, 1) := by decide +kernel
theorem dX8_clause_8 : decode cX8_clause 8 = .ok (.invokevirtual 102, 3) := by decide +kernel
theorem dX8_clause_11 : decode cX8_clause 11 = .ok (.ifCond .ne 5, 3) := by decide +kernel
theorem dX8_clause_14 : decode cX8_clause 14 = .ok (.iconst (-1), 1) := by decide +kernel
theorem dX8_clause_15 : decode cX8_clause 15 = .ok (.ireturn, 1) := by decide +kernel
theorem dX8_clause_16 : decode cX8_clause 16 = .ok (.aload_n 0, 1) := by decide +kernel
theorem dX8_clause_17 : decode cX8_clause 17 = .ok (.getfield 33, 3) := by decide +kernel
theorem dX8_clause_20 : decode cX8_clause 20 = .ok (.aload_n 0, 1) := by decide +kernel
theorem dX8_clause_21 : decode cX8_clause 21 = .ok (.getfield 10, 3) := by decide +kernel
theorem dX8_clause_24 : decode cX8_clause 24 = .ok (.aload_n 0, 1) := by decide +kernel
theorem dX8_clause_25 : decode cX8_clause 25 = .ok (.getfield 26, 3) := by decide +kernel
theorem dX8_clause_28 : decode cX8_clause 28 = .ok (.iload_n 1, 1) := by decide +kernel
theorem dX8_clause_29 : decode cX8_clause 29 = .ok (.invokevirtual 233, 3) := by decide +kernel
theorem dX8_clause_32 : decode cX8_clause 32 = .ok (.ireturn, 1) := by decide +kernel
theorem dX8_truth_0 : decode cX8_truth 0 = .ok (.aload_n 0, 1) := by decide +kernel
theorem dX8_truth_1 : decode cX8_truth 1 = .ok (.getfield 10, 3) := by decide +kernel
theorem dX8_truth_4 : decode cX8_truth 4 = .ok (.getfield 95, 3) := by decide +kernel
theorem dX8_truth_7 : decode cX8_truth 7 = .ok (.iload_n 1, 1) := by decide +kernel
theorem dX8_truth_8 : decode cX8_truth 8 = .ok (.invokevirtual 102, 3) := by decide +kernel
theorem dX8_truth_11 : decode cX8_truth 11 = .ok (.ifCond .eq 14, 3) := by decide +kernel
theorem dX8_truth_14 : decode cX8_truth 14 = .ok (.iload_n 2, 1) := by decide +kernel
theorem dX8_truth_15 : decode cX8_truth 15 = .ok (.iconst (-1), 1) := by decide +kernel
theorem dX8_truth_16 : decode cX8_truth 16 = .ok (.sipush 160, 3) := by decide +kernel
theorem dX8_truth_19 : decode cX8_truth 19 = .ok (.invokestatic 91, 3) := by decide +kernel
theorem dX8_truth_22 : decode cX8_truth 22 = .ok (.ifCond .ne 5, 3) := by decide +kernel
theorem dX8_truth_25 : decode cX8_truth 25 = .ok (.iconst (-1), 1) := by decide +kernel
theorem dX8_truth_26 : decode cX8_truth 26 = .ok (.ireturn, 1) := by decide +kernel
theorem dX8_truth_27 : decode cX8_truth 27 = .ok (.aload_n 0, 1) := by decide +kernel
theorem dX8_truth_28 : decode cX8_truth 28 = .ok (.getfield 10, 3) := by decide +kernel
theorem dX8_truth_31 : decode cX8_truth 31 = .ok (.getfield 95, 3) := by decide +kernel
theorem dX8_truth_34 : decode cX8_truth 34 = .ok (.iload_n 1, 1) := by decide +kernel
theorem dX8_truth_35 : decode cX8_truth 35 = .ok (.iconst 3, 1) := by decide +kernel
theorem dX8_truth_36 : decode cX8_truth 36 = .ok (.iload_n 2, 1) := by decide +kernel
theorem dX8_truth_37 : decode cX8_truth 37 = .ok (.invokevirtual 83, 3) := by decide +kernel
theorem dX8_truth_40 : decode cX8_truth 40 = .ok (.iconst 1, 1) := by decide +kernel
theorem dX8_truth_41 : decode cX8_truth 41 = .ok (.ireturn, 1) := by decide +kernel
theorem dX8_errs_0 : decode cX8_errs 0 = .ok (.iload_n 1, 1) := by decide +kernel
theorem dX8_errs_1 : decode cX8_errs 1 = .ok (.invokestatic 119, 3) := by decide +kernel
theorem dX8_errs_4 : decode cX8_errs 4 = .ok (.ifCond .eq 12, 3) := by decide +kernel
theorem dX8_errs_7 : decode cX8_errs 7 = .ok (.iload_n 2, 1) := by decide +kernel
theorem dX8_errs_8 : decode cX8_errs 8 = .ok (.iconst 0, 1) := by decide +kernel
theorem dX8_errs_9 : decode cX8_errs 9 = .ok (.iconst 1, 1) := by decide +kernel
theorem dX8_errs_10 : decode cX8_errs 10 = .ok (.invokestatic 91, 3) := by decide +kernel
theorem dX8_errs_13 : decode cX8_errs 13 = .ok (.ifCond .ne 5, 3) := by decide +kernel
theorem dX8_errs_16 : decode cX8_errs 16 = .ok (.iconst (-1), 1) := by decide +kernel
theorem dX8_errs_17 : decode cX8_errs 17 = .ok (.ireturn, 1) := by decide +kernel
theorem dX8_errs_18 : decode cX8_errs 18 = .ok (.iconst 0, 1) := by decide +kernel
theorem dX8_errs_19 : decode cX8_errs 19 = .ok (.istore_n 3, 1) := by decide +kernel
theorem dX8_errs_20 : decode cX8_errs 20 = .ok (.iconst 0, 1) := by decide +kernel
theorem dX8_errs_21 : decode cX8_errs 21 = .ok (.istore 4, 2) := by decide +kernel
theorem dX8_errs_23 : decode cX8_errs 23 = .ok (.iload 4, 2) := by decide +kernel
theorem dX8_errs_25 : decode cX8_errs 25 = .ok (.aload_n 0, 1) := by decide +kernel
theorem dX8_errs_26 : decode cX8_errs 26 = .ok (.getfield 10, 3) := by decide +kernel
theorem dX8_errs_29 : decode cX8_errs 29 = .ok (.getfield 95, 3) := by decide +kernel
theorem dX8_errs_32 : decode cX8_errs 32 = .ok (.getfield 228, 3) := by decide +kernel
theorem dX8_errs_35 : decode cX8_errs 35 = .ok (.if_icmp .ge 107, 3) := by decide +kernel
theorem dX8_errs_38 : decode cX8_errs 38 = .ok (.aload_n 0, 1) := by decide +kernel
theorem dX8_errs_39 : decode cX8_errs 39 = .ok (.getfield 10, 3) := by decide +kernel
theorem dX8_errs_42 : decode cX8_errs 42 = .ok (.iload 4, 2) := by decide +kernel
theorem dX8_errs_44 : decode cX8_errs 44 = .ok (.invokevirtual 116, 3) := by decide +kernel
theorem dX8_errs_47 : decode cX8_errs 47 = .ok (.ifCond .ne 6, 3) := by decide +kernel
theorem dX8_errs_50 : decode cX8_errs 50 = .ok (.goto 86, 3) := by decide +kernel
theorem dX8_errs_53 : decode cX8_errs 53 = .ok (.aload_n 0, 1) := by decide +kernel
theorem dX8_errs_54 : decode cX8_errs 54 = .ok (.getfield 10, 3) := by decide +kernel
theorem dX8_errs_57 : decode cX8_errs 57 = .ok (.iload 4, 2) := by decide +kernel
theorem dX8_errs_59 : decode cX8_errs 59 = .ok (.invokevirtual 109, 3) := by decide +kernel
theorem dX8_errs_62 : decode cX8_errs 62 = .ok (.aload_n 0, 1) := by decide +kernel
theorem dX8_errs_63 : decode cX8_errs 63 = .ok (.getfield 10, 3) := by decide +kernel
theorem dX8_errs_66 : decode cX8_errs 66 = .ok (.getfield 95, 3) := by decide +kernel
theorem dX8_errs_69 : decode cX8_errs 69 = .ok (.iload 4, 2) := by decide +kernel
theorem dX8_errs_71 : decode cX8_errs 71 = .ok (.iconst 3, 1) := by decide +kernel
theorem dX8_errs_72 : decode cX8_errs 72 = .ok (.invokevirtual 105, 3) := by decide +kernel
theorem dX8_errs_75 : decode cX8_errs 75 = .ok (.isub, 1) := by decide +kernel
theorem dX8_errs_76 : decode cX8_errs 76 = .ok (.iload_n 1, 1) := by decide +kernel
theorem dX8_errs_77 : decode cX8_errs 77 = .ok (.if_icmp .ge 7, 3) := by decide +kernel
theorem dX8_errs_80 : decode cX8_errs 80 = .ok (.iconst 1, 1) := by decide +kernel
theorem dX8_errs_81 : decode cX8_errs 81 = .ok (.goto 4, 3) := by decide +kernel
theorem dX8_errs_84 : decode cX8_errs 84 = .ok (.iconst 0, 1) := by decide +kernel
theorem dX8_errs_85 : decode cX8_errs 85 = .ok (.istore 5, 2) := by decide +kernel
theorem dX8_errs_87 : decode cX8_errs 87 = .ok (.aload_n 0, 1) := by decide +kernel
theorem dX8_errs_88 : decode cX8_errs 88 = .ok (.getfield 33, 3) := by decide +kernel
theorem dX8_errs_91 : decode cX8_errs 91 = .ok (.aload_n 0, 1) := by decide +kernel
theorem dX8_errs_92 : decode cX8_errs 92 = .ok (.getfield 10, 3) := by decide +kernel
theorem dX8_errs_95 : decode cX8_errs 95 = .ok (.aload_n 0, 1) := by decide +kernel
theorem dX8_errs_96 : decode cX8_errs 96 = .ok (.getfield 26, 3) := by decide +kernel
theorem dX8_errs_99 : decode cX8_errs 99 = .ok (.iload 4, 2) := by decide +kernel
theorem dX8_errs_101 : decode cX8_errs 101 = .ok (.invokevirtual 229, 3) := by decide +kernel
theorem dX8_errs_104 : decode cX8_errs 104 = .ok (.istore 6, 2) := by decide +kernel
theorem dX8_errs_106 : decode cX8_errs 106 = .ok (.iload_n 2, 1) := by decide +kernel
theorem dX8_errs_107 : decode cX8_errs 107 = .ok (.ifCond .ne 16, 3) := by decide +kernel
theorem dX8_errs_110 : decode cX8_errs 110 = .ok (.iload 6, 2) := by decide +kernel
theorem dX8_errs_112 : decode cX8_errs 112 = .ok (.ifCond .eq 24, 3) := by decide +kernel
theorem dX8_errs_115 : decode cX8_errs 115 = .ok (.iload 5, 2) := by decide +kernel
theorem dX8_errs_117 : decode cX8_errs 117 = .ok (.ifCond .eq 19, 3) := by decide +kernel
theorem dX8_errs_120 : decode cX8_errs 120 = .ok (.goto 13, 3) := by decide +kernel
theorem dX8_errs_123 : decode cX8_errs 123 = .ok (.iload 6, 2) := by decide +kernel
theorem dX8_errs_125 : decode cX8_errs 125 = .ok (.ifCond .ne 11, 3) := by decide +kernel
theorem dX8_errs_128 : decode cX8_errs 128 = .ok (.iload 5, 2) := by decide +kernel
theorem dX8_errs_130 : decode cX8_errs 130 = .ok (.ifCond .ne 6, 3) := by decide +kernel
theorem dX8_errs_133 : decode cX8_errs 133 = .ok (.iinc 3 1, 3) := by decide +kernel
theorem dX8_errs_136 : decode cX8_errs 136 = .ok (.iinc 4 1, 3) := by decide +kernel
theorem dX8_errs_139 : decode cX8_errs 139 = .ok (.goto (-116), 3) := by decide +kernel
theorem dX8_errs_142 : decode cX8_errs 142 = .ok (.iload_n 3, 1) := by decide +kernel
theorem dX8_errs_143 : decode cX8_errs 143 = .ok (.ireturn, 1) := by decide +kernel
theorem dX8_draw_0 : decode cX8_draw 0 = .ok (.aload_n 0, 1) := by decide +kernel
theorem dX8_draw_1 : decode cX8_draw 1 = .ok (.getfield 10, 3) := by decide +kernel
theorem dX8_draw_4 : decode cX8_draw 4 = .ok (.getfield 95, 3) := by decide +kernel
theorem dX8_draw_7 : decode cX8_draw 7 = .ok (.iload_n 1, 1) := by decide +kernel
theorem dX8_draw_8 : decode cX8_draw 8 = .ok (.invokevirtual 102, 3) := by decide +kernel
theorem dX8_draw_11 : decode cX8_draw 11 = .ok (.ifCond .eq 22, 3) := by decide +kernel
theorem dX8_draw_14 : decode cX8_draw 14 = .ok (.iload_n 2, 1) := by decide +kernel
theorem dX8_draw_15 : decode cX8_draw 15 = .ok (.invokestatic 119, 3) := by decide +kernel
theorem dX8_draw_18 : decode cX8_draw 18 = .ok (.ifCond .eq 15, 3) := by decide +kernel
theorem dX8_draw_21 : decode cX8_draw 21 = .ok (.iload_n 3, 1) := by decide +kernel
theorem dX8_draw_22 : decode cX8_draw 22 = .ok (.invokestatic 119, 3) := by decide +kernel
theorem dX8_draw_25 : decode cX8_draw 25 = .ok (.ifCond .eq 8, 3) := by decide +kernel
theorem dX8_draw_28 : decode cX8_draw 28 = .ok (.iload_n 2, 1) := by decide +kernel
theorem dX8_draw_29 : decode cX8_draw 29 = .ok (.iload_n 3, 1) := by decide +kernel
theorem dX8_draw_30 : decode cX8_draw 30 = .ok (.if_icmp .le 5, 3) := by decide +kernel
theorem dX8_draw_33 : decode cX8_draw 33 = .ok (.iconst (-1), 1) := by decide +kernel
theorem dX8_draw_34 : decode cX8_draw 34 = .ok (.ireturn, 1) := by decide +kernel
theorem dX8_draw_35 : decode cX8_draw 35 = .ok (.iload 4, 2) := by decide +kernel
theorem dX8_draw_37 : decode cX8_draw 37 = .ok (.iconst 1, 1) := by decide +kernel
theorem dX8_draw_38 : decode cX8_draw 38 = .ok (.bipush 99, 2) := by decide +kernel
theorem dX8_draw_40 : decode cX8_draw 40 = .ok (.invokestatic 91, 3) := by decide +kernel
theorem dX8_draw_43 : decode cX8_draw 43 = .ok (.ifCond .ne 5, 3) := by decide +kernel
theorem dX8_draw_46 : decode cX8_draw 46 = .ok (.iconst (-1), 1) := by decide +kernel
theorem dX8_draw_47 : decode cX8_draw 47 = .ok (.ireturn, 1) := by decide +kernel
theorem dX8_draw_48 : decode cX8_draw 48 = .ok (.aload_n 0, 1) := by decide +kernel
theorem dX8_draw_49 : decode cX8_draw 49 = .ok (.getfield 10, 3) := by decide +kernel
theorem dX8_draw_52 : decode cX8_draw 52 = .ok (.getfield 237, 3) := by decide +kernel
theorem dX8_draw_55 : decode cX8_draw 55 = .ok (.invokevirtual 98, 3) := by decide +kernel
theorem dX8_draw_58 : decode cX8_draw 58 = .ok (.ifCond .eq 6, 3) := by decide +kernel
theorem dX8_draw_61 : decode cX8_draw 61 = .ok (.bipush (-2), 2) := by decide +kernel
theorem dX8_draw_63 : decode cX8_draw 63 = .ok (.ireturn, 1) := by decide +kernel
theorem dX8_draw_64 : decode cX8_draw 64 = .ok (.aload_n 0, 1) := by decide +kernel
theorem dX8_draw_65 : decode cX8_draw 65 = .ok (.getfield 10, 3) := by decide +kernel
theorem dX8_draw_68 : decode cX8_draw 68 = .ok (.getfield 237, 3) := by decide +kernel
theorem dX8_draw_71 : decode cX8_draw 71 = .ok (.invokevirtual 79, 3) := by decide +kernel
theorem dX8_draw_74 : decode cX8_draw 74 = .ok (.istore 5, 2) := by decide +kernel
theorem dX8_draw_76 : decode cX8_draw 76 = .ok (.aload_n 0, 1) := by decide +kernel
theorem dX8_draw_77 : decode cX8_draw 77 = .ok (.getfield 10, 3) := by decide +kernel
theorem dX8_draw_80 : decode cX8_draw 80 = .ok (.getfield 237, 3) := by decide +kernel
theorem dX8_draw_83 : decode cX8_draw 83 = .ok (.iload 5, 2) := by decide +kernel
theorem dX8_draw_85 : decode cX8_draw 85 = .ok (.iconst 0, 1) := by decide +kernel
theorem dX8_draw_86 : decode cX8_draw 86 = .ok (.iload_n 1, 1) := by decide +kernel
theorem dX8_draw_87 : decode cX8_draw 87 = .ok (.invokevirtual 83, 3) := by decide +kernel
theorem dX8_draw_90 : decode cX8_draw 90 = .ok (.aload_n 0, 1) := by decide +kernel
theorem dX8_draw_91 : decode cX8_draw 91 = .ok (.getfield 10, 3) := by decide +kernel
theorem dX8_draw_94 : decode cX8_draw 94 = .ok (.getfield 237, 3) := by decide +kernel
theorem dX8_draw_97 : decode cX8_draw 97 = .ok (.iload 5, 2) := by decide +kernel
theorem dX8_draw_99 : decode cX8_draw 99 = .ok (.iconst 1, 1) := by decide +kernel
theorem dX8_draw_100 : decode cX8_draw 100 = .ok (.iload_n 2, 1) := by decide +kernel
theorem dX8_draw_101 : decode cX8_draw 101 = .ok (.invokevirtual 83, 3) := by decide +kernel
theorem dX8_draw_104 : decode cX8_draw 104 = .ok (.aload_n 0, 1) := by decide +kernel
theorem dX8_draw_105 : decode cX8_draw 105 = .ok (.getfield 10, 3) := by decide +kernel
theorem dX8_draw_108 : decode cX8_draw 108 = .ok (.getfield 237, 3) := by decide +kernel
theorem dX8_draw_111 : decode cX8_draw 111 = .ok (.iload 5, 2) := by decide +kernel
theorem dX8_draw_113 : decode cX8_draw 113 = .ok (.iconst 2, 1) := by decide +kernel
theorem dX8_draw_114 : decode cX8_draw 114 = .ok (.iload_n 3, 1) := by decide +kernel
theorem dX8_draw_115 : decode cX8_draw 115 = .ok (.invokevirtual 83, 3) := by decide +kernel
theorem dX8_draw_118 : decode cX8_draw 118 = .ok (.aload_n 0, 1) := by decide +kernel
theorem dX8_draw_119 : decode cX8_draw 119 = .ok (.getfield 10, 3) := by decide +kernel
theorem dX8_draw_122 : decode cX8_draw 122 = .ok (.getfield 237, 3) := by decide +kernel
theorem dX8_draw_125 : decode cX8_draw 125 = .ok (.iload 5, 2) := by decide +kernel
theorem dX8_draw_127 : decode cX8_draw 127 = .ok (.iconst 3, 1) := by decide +kernel
theorem dX8_draw_128 : decode cX8_draw 128 = .ok (.iload 4, 2) := by decide +kernel
theorem dX8_draw_130 : decode cX8_draw 130 = .ok (.invokevirtual 83, 3) := by decide +kernel
theorem dX8_draw_133 : decode cX8_draw 133 = .ok (.iload 5, 2) := by decide +kernel
theorem dX8_draw_135 : decode cX8_draw 135 = .ok (.ireturn, 1) := by decide +kernel
theorem dX8_behind_0 : decode cX8_behind 0 = .ok (.aload_n 0, 1) := by decide +kernel
theorem dX8_behind_1 : decode cX8_behind 1 = .ok (.getfield 10, 3) := by decide +kernel
theorem dX8_behind_4 : decode cX8_behind 4 = .ok (.getfield 95, 3) := by decide +kernel
theorem dX8_behind_7 : decode cX8_behind 7 = .ok (.iload_n 1, 1) := by decide +kernel
theorem dX8_behind_8 : decode cX8_behind 8 = .ok (.invokevirtual 102, 3) := by decide +kernel
theorem dX8_behind_11 : decode cX8_behind 11 = .ok (.ifCond .ne 5, 3) := by decide +kernel
theorem dX8_behind_14 : decode cX8_behind 14 = .ok (.iconst (-1), 1) := by decide +kernel
theorem dX8_behind_15 : decode cX8_behind 15 = .ok (.ireturn, 1) := by decide +kernel
theorem dX8_behind_16 : decode cX8_behind 16 = .ok (.aload_n 0, 1) := by decide +kernel
theorem dX8_behind_17 : decode cX8_behind 17 = .ok (.getfield 10, 3) := by decide +kernel
theorem dX8_behind_20 : decode cX8_behind 20 = .ok (.iload_n 1, 1) := by decide +kernel
theorem dX8_behind_21 : decode cX8_behind 21 = .ok (.invokevirtual 240, 3) := by decide +kernel
theorem dX8_behind_24 : decode cX8_behind 24 = .ok (.ireturn, 1) := by decide +kernel
theorem dX8_suspect_0 : decode cX8_suspect 0 = .ok (.iload_n 1, 1) := by decide +kernel
theorem dX8_suspect_1 : decode cX8_suspect 1 = .ok (.ifCond .lt 9, 3) := by decide +kernel
theorem dX8_suspect_4 : decode cX8_suspect 4 = .ok (.iload_n 1, 1) := by decide +kernel
theorem dX8_suspect_5 : decode cX8_suspect 5 = .ok (.bipush 10, 2) := by decide +kernel
theorem dX8_suspect_7 : decode cX8_suspect 7 = .ok (.if_icmp .lt 6, 3) := by decide +kernel
theorem dX8_suspect_10 : decode cX8_suspect 10 = .ok (.bipush (-3), 2) := by decide +kernel
theorem dX8_suspect_12 : decode cX8_suspect 12 = .ok (.ireturn, 1) := by decide +kernel
theorem dX8_suspect_13 : decode cX8_suspect 13 = .ok (.iconst 0, 1) := by decide +kernel
theorem dX8_suspect_14 : decode cX8_suspect 14 = .ok (.istore_n 2, 1) := by decide +kernel
theorem dX8_suspect_15 : decode cX8_suspect 15 = .ok (.iload_n 2, 1) := by decide +kernel
theorem dX8_suspect_16 : decode cX8_suspect 16 = .ok (.aload_n 0, 1) := by decide +kernel
theorem dX8_suspect_17 : decode cX8_suspect 17 = .ok (.getfield 10, 3) := by decide +kernel
theorem dX8_suspect_20 : decode cX8_suspect 20 = .ok (.getfield 95, 3) := by decide +kernel
theorem dX8_suspect_23 : decode cX8_suspect 23 = .ok (.getfield 228, 3) := by decide +kernel
theorem dX8_suspect_26 : decode cX8_suspect 26 = .ok (.if_icmp .ge 31, 3) := by decide +kernel
theorem dX8_suspect_29 : decode cX8_suspect 29 = .ok (.aload_n 0, 1) := by decide +kernel
theorem dX8_suspect_30 : decode cX8_suspect 30 = .ok (.getfield 10, 3) := by decide +kernel
theorem dX8_suspect_33 : decode cX8_suspect 33 = .ok (.iload_n 2, 1) := by decide +kernel
theorem dX8_suspect_34 : decode cX8_suspect 34 = .ok (.invokevirtual 240, 3) := by decide +kernel
theorem dX8_suspect_37 : decode cX8_suspect 37 = .ok (.ifCond .le 14, 3) := by decide +kernel
theorem dX8_suspect_40 : decode cX8_suspect 40 = .ok (.aload_n 0, 1) := by decide +kernel
theorem dX8_suspect_41 : decode cX8_suspect 41 = .ok (.iload_n 2, 1) := by decide +kernel
theorem dX8_suspect_42 : decode cX8_suspect 42 = .ok (.invokevirtual 243, 3) := by decide +kernel
theorem dX8_suspect_45 : decode cX8_suspect 45 = .ok (.iload_n 1, 1) := by decide +kernel
theorem dX8_suspect_46 : decode cX8_suspect 46 = .ok (.if_icmp .ne 5, 3) := by decide +kernel
theorem dX8_suspect_49 : decode cX8_suspect 49 = .ok (.iload_n 2, 1) := by decide +kernel
theorem dX8_suspect_50 : decode cX8_suspect 50 = .ok (.ireturn, 1) := by decide +kernel
theorem dX8_suspect_51 : decode cX8_suspect 51 = .ok (.iinc 2 1, 3) := by decide +kernel
theorem dX8_suspect_54 : decode cX8_suspect 54 = .ok (.goto (-39), 3) := by decide +kernel
theorem dX8_suspect_57 : decode cX8_suspect 57 = .ok (.bipush (-3), 2) := by decide +kernel
theorem dX8_suspect_59 : decode cX8_suspect 59 = .ok (.ireturn, 1) := by decide +kernel
theorem dX8_suspectsAheadOf_0 : decode cX8_suspectsAheadOf 0 = .ok (.aload_n 0, 1) := by decide +kernel
theorem dX8_suspectsAheadOf_1 : decode cX8_suspectsAheadOf 1 = .ok (.getfield 10, 3) := by decide +kernel
theorem dX8_suspectsAheadOf_4 : decode cX8_suspectsAheadOf 4 = .ok (.iload_n 1, 1) := by decide +kernel
theorem dX8_suspectsAheadOf_5 : decode cX8_suspectsAheadOf 5 = .ok (.invokevirtual 240, 3) := by decide +kernel
theorem dX8_suspectsAheadOf_8 : decode cX8_suspectsAheadOf 8 = .ok (.istore_n 2, 1) := by decide +kernel
theorem dX8_suspectsAheadOf_9 : decode cX8_suspectsAheadOf 9 = .ok (.iconst 0, 1) := by decide +kernel
theorem dX8_suspectsAheadOf_10 : decode cX8_suspectsAheadOf 10 = .ok (.istore_n 3, 1) := by decide +kernel
theorem dX8_suspectsAheadOf_11 : decode cX8_suspectsAheadOf 11 = .ok (.iconst 0, 1) := by decide +kernel
theorem dX8_suspectsAheadOf_12 : decode cX8_suspectsAheadOf 12 = .ok (.istore 4, 2) := by decide +kernel
theorem dX8_suspectsAheadOf_14 : decode cX8_suspectsAheadOf 14 = .ok (.iload 4, 2) := by decide +kernel
theorem dX8_suspectsAheadOf_16 : decode cX8_suspectsAheadOf 16 = .ok (.aload_n 0, 1) := by decide +kernel
theorem dX8_suspectsAheadOf_17 : decode cX8_suspectsAheadOf 17 = .ok (.getfield 10, 3) := by decide +kernel
theorem dX8_suspectsAheadOf_20 : decode cX8_suspectsAheadOf 20 = .ok (.getfield 95, 3) := by decide +kernel
theorem dX8_suspectsAheadOf_23 : decode cX8_suspectsAheadOf 23 = .ok (.getfield 228, 3) := by decide +kernel
theorem dX8_suspectsAheadOf_26 : decode cX8_suspectsAheadOf 26 = .ok (.if_icmp .ge 41, 3) := by decide +kernel
theorem dX8_suspectsAheadOf_29 : decode cX8_suspectsAheadOf 29 = .ok (.aload_n 0, 1) := by decide +kernel
theorem dX8_suspectsAheadOf_30 : decode cX8_suspectsAheadOf 30 = .ok (.getfield 10, 3) := by decide +kernel
theorem dX8_suspectsAheadOf_33 : decode cX8_suspectsAheadOf 33 = .ok (.iload 4, 2) := by decide +kernel
theorem dX8_suspectsAheadOf_35 : decode cX8_suspectsAheadOf 35 = .ok (.invokevirtual 240, 3) := by decide +kernel
theorem dX8_suspectsAheadOf_38 : decode cX8_suspectsAheadOf 38 = .ok (.istore 5, 2) := by decide +kernel
theorem dX8_suspectsAheadOf_40 : decode cX8_suspectsAheadOf 40 = .ok (.iload 5, 2) := by decide +kernel
theorem dX8_suspectsAheadOf_42 : decode cX8_suspectsAheadOf 42 = .ok (.iload_n 2, 1) := by decide +kernel
theorem dX8_suspectsAheadOf_43 : decode cX8_suspectsAheadOf 43 = .ok (.if_icmp .gt 15, 3) := by decide +kernel
theorem dX8_suspectsAheadOf_46 : decode cX8_suspectsAheadOf 46 = .ok (.iload 5, 2) := by decide +kernel
theorem dX8_suspectsAheadOf_48 : decode cX8_suspectsAheadOf 48 = .ok (.iload_n 2, 1) := by decide +kernel
theorem dX8_suspectsAheadOf_49 : decode cX8_suspectsAheadOf 49 = .ok (.if_icmp .ne 12, 3) := by decide +kernel
theorem dX8_suspectsAheadOf_52 : decode cX8_suspectsAheadOf 52 = .ok (.iload 4, 2) := by decide +kernel
theorem dX8_suspectsAheadOf_54 : decode cX8_suspectsAheadOf 54 = .ok (.iload_n 1, 1) := by decide +kernel
theorem dX8_suspectsAheadOf_55 : decode cX8_suspectsAheadOf 55 = .ok (.if_icmp .ge 6, 3) := by decide +kernel
theorem dX8_suspectsAheadOf_58 : decode cX8_suspectsAheadOf 58 = .ok (.iinc 3 1, 3) := by decide +kernel
theorem dX8_suspectsAheadOf_61 : decode cX8_suspectsAheadOf 61 = .ok (.iinc 4 1, 3) := by decide +kernel
theorem dX8_suspectsAheadOf_64 : decode cX8_suspectsAheadOf 64 = .ok (.goto (-50), 3) := by decide +kernel
theorem dX8_suspectsAheadOf_67 : decode cX8_suspectsAheadOf 67 = .ok (.iload_n 3, 1) := by decide +kernel
theorem dX8_suspectsAheadOf_68 : decode cX8_suspectsAheadOf 68 = .ok (.ireturn, 1) := by decide +kernel
theorem dX8_heap_0 : decode cX8_heap 0 = .ok (.aload_n 0, 1) := by decide +kernel
theorem dX8_heap_1 : decode cX8_heap 1 = .ok (.getfield 10, 3) := by decide +kernel
theorem dX8_heap_4 : decode cX8_heap 4 = .ok (.iconst 0, 1) := by decide +kernel
theorem dX8_heap_5 : decode cX8_heap 5 = .ok (.invokevirtual 246, 3) := by decide +kernel
theorem dX8_heap_8 : decode cX8_heap 8 = .ok (.istore_n 2, 1) := by decide +kernel
theorem dX8_heap_9 : decode cX8_heap 9 = .ok (.aload_n 0, 1) := by decide +kernel
theorem dX8_heap_10 : decode cX8_heap 10 = .ok (.getfield 10, 3) := by decide +kernel
theorem dX8_heap_13 : decode cX8_heap 13 = .ok (.iconst 5, 1) := by decide +kernel
theorem dX8_heap_14 : decode cX8_heap 14 = .ok (.invokevirtual 246, 3) := by decide +kernel
theorem dX8_heap_17 : decode cX8_heap 17 = .ok (.istore_n 3, 1) := by decide +kernel
theorem dX8_heap_18 : decode cX8_heap 18 = .ok (.aload_n 0, 1) := by decide +kernel
theorem dX8_heap_19 : decode cX8_heap 19 = .ok (.getfield 10, 3) := by decide +kernel
theorem dX8_heap_22 : decode cX8_heap 22 = .ok (.invokevirtual 249, 3) := by decide +kernel
theorem dX8_heap_25 : decode cX8_heap 25 = .ok (.istore 4, 2) := by decide +kernel
theorem dX8_heap_27 : decode cX8_heap 27 = .ok (.iload_n 1, 1) := by decide +kernel
theorem dX8_heap_28 : decode cX8_heap 28 = .ok (.tableswitch 63 0 3 #[32, 34, 36, 43], 32) := by decide +kernel
theorem dX8_heap_60 : decode cX8_heap 60 = .ok (.iload_n 2, 1) := by decide +kernel
theorem dX8_heap_61 : decode cX8_heap 61 = .ok (.ireturn, 1) := by decide +kernel
theorem dX8_heap_62 : decode cX8_heap 62 = .ok (.iload_n 3, 1) := by decide +kernel
theorem dX8_heap_63 : decode cX8_heap 63 = .ok (.ireturn, 1) := by decide +kernel
theorem dX8_heap_64 : decode cX8_heap 64 = .ok (.iload 4, 2) := by decide +kernel
theorem dX8_heap_66 : decode cX8_heap 66 = .ok (.iload_n 2, 1) := by decide +kernel
theorem dX8_heap_67 : decode cX8_heap 67 = .ok (.isub, 1) := by decide +kernel
theorem dX8_heap_68 : decode cX8_heap 68 = .ok (.iload_n 3, 1) := by decide +kernel
theorem dX8_heap_69 : decode cX8_heap 69 = .ok (.isub, 1) := by decide +kernel
theorem dX8_heap_70 : decode cX8_heap 70 = .ok (.ireturn, 1) := by decide +kernel
theorem dX8_heap_71 : decode cX8_heap 71 = .ok (.iload 4, 2) := by decide +kernel
theorem dX8_heap_73 : decode cX8_heap 73 = .ok (.ifCond .gt 7, 3) := by decide +kernel
theorem dX8_heap_76 : decode cX8_heap 76 = .ok (.iconst 0, 1) := by decide +kernel
theorem dX8_heap_77 : decode cX8_heap 77 = .ok (.goto 13, 3) := by decide +kernel
theorem dX8_heap_80 : decode cX8_heap 80 = .ok (.sipush 500, 3) := by decide +kernel
theorem dX8_heap_83 : decode cX8_heap 83 = .ok (.iload_n 2, 1) := by decide +kernel
theorem dX8_heap_84 : decode cX8_heap 84 = .ok (.iload_n 3, 1) := by decide +kernel
theorem dX8_heap_85 : decode cX8_heap 85 = .ok (.iadd, 1) := by decide +kernel
theorem dX8_heap_86 : decode cX8_heap 86 = .ok (.imul, 1) := by decide +kernel
theorem dX8_heap_87 : decode cX8_heap 87 = .ok (.iload 4, 2) := by decide +kernel
theorem dX8_heap_89 : decode cX8_heap 89 = .ok (.idiv, 1) := by decide +kernel
theorem dX8_heap_90 : decode cX8_heap 90 = .ok (.ireturn, 1) := by decide +kernel
theorem dX8_heap_91 : decode cX8_heap 91 = .ok (.iconst (-1), 1) := by decide +kernel
theorem dX8_heap_92 : decode cX8_heap 92 = .ok (.ireturn, 1) := by decide +kernel
theorem dX8_valley_0 : decode cX8_valley 0 = .ok (.iload_n 1, 1) := by decide +kernel
theorem dX8_valley_1 : decode cX8_valley 1 = .ok (.invokestatic 87, 3) := by decide +kernel
theorem dX8_valley_4 : decode cX8_valley 4 = .ok (.ifCond .eq 19, 3) := by decide +kernel
theorem dX8_valley_7 : decode cX8_valley 7 = .ok (.iload_n 2, 1) := by decide +kernel
theorem dX8_valley_8 : decode cX8_valley 8 = .ok (.invokestatic 119, 3) := by decide +kernel
theorem dX8_valley_11 : decode cX8_valley 11 = .ok (.ifCond .eq 12, 3) := by decide +kernel
theorem dX8_valley_14 : decode cX8_valley 14 = .ok (.iload_n 3, 1) := by decide +kernel
theorem dX8_valley_15 : decode cX8_valley 15 = .ok (.iconst 0, 1) := by decide +kernel
theorem dX8_valley_16 : decode cX8_valley 16 = .ok (.iconst 2, 1) := by decide +kernel
theorem dX8_valley_17 : decode cX8_valley 17 = .ok (.invokestatic 91, 3) := by decide +kernel
theorem dX8_valley_20 : decode cX8_valley 20 = .ok (.ifCond .ne 5, 3) := by decide +kernel
theorem dX8_valley_23 : decode cX8_valley 23 = .ok (.iconst (-1), 1) := by decide +kernel
theorem dX8_valley_24 : decode cX8_valley 24 = .ok (.ireturn, 1) := by decide +kernel
theorem dX8_valley_25 : decode cX8_valley 25 = .ok (.iconst 0, 1) := by decide +kernel
theorem dX8_valley_26 : decode cX8_valley 26 = .ok (.istore 4, 2) := by decide +kernel
theorem dX8_valley_28 : decode cX8_valley 28 = .ok (.iconst 0, 1) := by decide +kernel
theorem dX8_valley_29 : decode cX8_valley 29 = .ok (.istore 5, 2) := by decide +kernel
theorem dX8_valley_31 : decode cX8_valley 31 = .ok (.iload 5, 2) := by decide +kernel
theorem dX8_valley_33 : decode cX8_valley 33 = .ok (.aload_n 0, 1) := by decide +kernel
theorem dX8_valley_34 : decode cX8_valley 34 = .ok (.getfield 10, 3) := by decide +kernel
theorem dX8_valley_37 : decode cX8_valley 37 = .ok (.getfield 95, 3) := by decide +kernel
theorem dX8_valley_40 : decode cX8_valley 40 = .ok (.getfield 228, 3) := by decide +kernel
theorem dX8_valley_43 : decode cX8_valley 43 = .ok (.if_icmp .ge 40, 3) := by decide +kernel
theorem dX8_valley_46 : decode cX8_valley 46 = .ok (.aload_n 0, 1) := by decide +kernel
theorem dX8_valley_47 : decode cX8_valley 47 = .ok (.getfield 10, 3) := by decide +kernel
theorem dX8_valley_50 : decode cX8_valley 50 = .ok (.getfield 95, 3) := by decide +kernel
theorem dX8_valley_53 : decode cX8_valley 53 = .ok (.iload 5, 2) := by decide +kernel
theorem dX8_valley_55 : decode cX8_valley 55 = .ok (.iconst 0, 1) := by decide +kernel
theorem dX8_valley_56 : decode cX8_valley 56 = .ok (.invokevirtual 105, 3) := by decide +kernel
theorem dX8_valley_59 : decode cX8_valley 59 = .ok (.iload_n 1, 1) := by decide +kernel
theorem dX8_valley_60 : decode cX8_valley 60 = .ok (.if_icmp .ne 17, 3) := by decide +kernel
theorem dX8_valley_63 : decode cX8_valley 63 = .ok (.aload_n 0, 1) := by decide +kernel
theorem dX8_valley_64 : decode cX8_valley 64 = .ok (.iload 5, 2) := by decide +kernel
theorem dX8_valley_66 : decode cX8_valley 66 = .ok (.iload_n 2, 1) := by decide +kernel
theorem dX8_valley_67 : decode cX8_valley 67 = .ok (.iload_n 3, 1) := by decide +kernel
theorem dX8_valley_68 : decode cX8_valley 68 = .ok (.invokevirtual 252, 3) := by decide +kernel
theorem dX8_valley_71 : decode cX8_valley 71 = .ok (.ifCond .eq 6, 3) := by decide +kernel
theorem dX8_valley_74 : decode cX8_valley 74 = .ok (.iinc 4 1, 3) := by decide +kernel
theorem dX8_valley_77 : decode cX8_valley 77 = .ok (.iinc 5 1, 3) := by decide +kernel
theorem dX8_valley_80 : decode cX8_valley 80 = .ok (.goto (-49), 3) := by decide +kernel
theorem dX8_valley_83 : decode cX8_valley 83 = .ok (.iload 4, 2) := by decide +kernel
theorem dX8_valley_85 : decode cX8_valley 85 = .ok (.ireturn, 1) := by decide +kernel
theorem dX8_isOld_0 : decode cX8_isOld 0 = .ok (.aload_n 0, 1) := by decide +kernel
theorem dX8_isOld_1 : decode cX8_isOld 1 = .ok (.getfield 26, 3) := by decide +kernel
theorem dX8_isOld_4 : decode cX8_isOld 4 = .ok (.aload_n 0, 1) := by decide +kernel
theorem dX8_isOld_5 : decode cX8_isOld 5 = .ok (.getfield 10, 3) := by decide +kernel
theorem dX8_isOld_8 : decode cX8_isOld 8 = .ok (.iload_n 1, 1) := by decide +kernel
theorem dX8_isOld_9 : decode cX8_isOld 9 = .ok (.invokevirtual 150, 3) := by decide +kernel
theorem dX8_isOld_12 : decode cX8_isOld 12 = .ok (.aload_n 0, 1) := by decide +kernel
theorem dX8_isOld_13 : decode cX8_isOld 13 = .ok (.getfield 26, 3) := by decide +kernel
theorem dX8_isOld_16 : decode cX8_isOld 16 = .ok (.getfield 158, 3) := by decide +kernel
theorem dX8_isOld_19 : decode cX8_isOld 19 = .ok (.lconst 0, 1) := by decide +kernel
theorem dX8_isOld_20 : decode cX8_isOld 20 = .ok (.lcmp, 1) := by decide +kernel
theorem dX8_isOld_21 : decode cX8_isOld 21 = .ok (.ifCond .gt 5, 3) := by decide +kernel
theorem dX8_isOld_24 : decode cX8_isOld 24 = .ok (.iconst 0, 1) := by decide +kernel
theorem dX8_isOld_25 : decode cX8_isOld 25 = .ok (.ireturn, 1) := by decide +kernel
theorem dX8_isOld_26 : decode cX8_isOld 26 = .ok (.iload_n 3, 1) := by decide +kernel
theorem dX8_isOld_27 : decode cX8_isOld 27 = .ok (.ifCond .ne 28, 3) := by decide +kernel
theorem dX8_isOld_30 : decode cX8_isOld 30 = .ok (.aload_n 0, 1) := by decide +kernel
theorem dX8_isOld_31 : decode cX8_isOld 31 = .ok (.getfield 26, 3) := by decide +kernel
theorem dX8_isOld_34 : decode cX8_isOld 34 = .ok (.iload_n 2, 1) := by decide +kernel
theorem dX8_isOld_35 : decode cX8_isOld 35 = .ok (.invokevirtual 167, 3) := by decide +kernel
theorem dX8_isOld_38 : decode cX8_isOld 38 = .ok (.aload_n 0, 1) := by decide +kernel
theorem dX8_isOld_39 : decode cX8_isOld 39 = .ok (.getfield 26, 3) := by decide +kernel
theorem dX8_isOld_42 : decode cX8_isOld 42 = .ok (.getfield 158, 3) := by decide +kernel
theorem dX8_isOld_45 : decode cX8_isOld 45 = .ok (.lcmp, 1) := by decide +kernel
theorem dX8_isOld_46 : decode cX8_isOld 46 = .ok (.ifCond .ne 7, 3) := by decide +kernel
theorem dX8_isOld_49 : decode cX8_isOld 49 = .ok (.iconst 1, 1) := by decide +kernel
theorem dX8_isOld_50 : decode cX8_isOld 50 = .ok (.goto 4, 3) := by decide +kernel
theorem dX8_isOld_53 : decode cX8_isOld 53 = .ok (.iconst 0, 1) := by decide +kernel
theorem dX8_isOld_54 : decode cX8_isOld 54 = .ok (.ireturn, 1) := by decide +kernel
theorem dX8_isOld_55 : decode cX8_isOld 55 = .ok (.iload_n 3, 1) := by decide +kernel
theorem dX8_isOld_56 : decode cX8_isOld 56 = .ok (.iconst 1, 1) := by decide +kernel
theorem dX8_isOld_57 : decode cX8_isOld 57 = .ok (.if_icmp .ne 20, 3) := by decide +kernel
theorem dX8_isOld_60 : decode cX8_isOld 60 = .ok (.aload_n 0, 1) := by decide +kernel
theorem dX8_isOld_61 : decode cX8_isOld 61 = .ok (.getfield 26, 3) := by decide +kernel
theorem dX8_isOld_64 : decode cX8_isOld 64 = .ok (.invokevirtual 255, 3) := by decide +kernel
theorem dX8_isOld_67 : decode cX8_isOld 67 = .ok (.iload_n 2, 1) := by decide +kernel
theorem dX8_isOld_68 : decode cX8_isOld 68 = .ok (.if_icmp .lt 7, 3) := by decide +kernel
theorem dX8_isOld_71 : decode cX8_isOld 71 = .ok (.iconst 1, 1) := by decide +kernel
theorem dX8_isOld_72 : decode cX8_isOld 72 = .ok (.goto 4, 3) := by decide +kernel
theorem dX8_isOld_75 : decode cX8_isOld 75 = .ok (.iconst 0, 1) := by decide +kernel
theorem dX8_isOld_76 : decode cX8_isOld 76 = .ok (.ireturn, 1) := by decide +kernel
theorem dX8_isOld_77 : decode cX8_isOld 77 = .ok (.aload_n 0, 1) := by decide +kernel
theorem dX8_isOld_78 : decode cX8_isOld 78 = .ok (.getfield 26, 3) := by decide +kernel
theorem dX8_isOld_81 : decode cX8_isOld 81 = .ok (.iload_n 2, 1) := by decide +kernel
theorem dX8_isOld_82 : decode cX8_isOld 82 = .ok (.invokevirtual 167, 3) := by decide +kernel
theorem dX8_isOld_85 : decode cX8_isOld 85 = .ok (.lconst 0, 1) := by decide +kernel
theorem dX8_isOld_86 : decode cX8_isOld 86 = .ok (.lcmp, 1) := by decide +kernel
theorem dX8_isOld_87 : decode cX8_isOld 87 = .ok (.ifCond .le 7, 3) := by decide +kernel
theorem dX8_isOld_90 : decode cX8_isOld 90 = .ok (.iconst 1, 1) := by decide +kernel
theorem dX8_isOld_91 : decode cX8_isOld 91 = .ok (.goto 4, 3) := by decide +kernel
theorem dX8_isOld_94 : decode cX8_isOld 94 = .ok (.iconst 0, 1) := by decide +kernel
theorem dX8_isOld_95 : decode cX8_isOld 95 = .ok (.ireturn, 1) := by decide +kernel
theorem dX8_question_0 : decode cX8_question 0 = .ok (.aload_n 0, 1) := by decide +kernel
theorem dX8_question_1 : decode cX8_question 1 = .ok (.getfield 10, 3) := by decide +kernel
theorem dX8_question_4 : decode cX8_question 4 = .ok (.getfield 95, 3) := by decide +kernel
theorem dX8_question_7 : decode cX8_question 7 = .ok (.iload_n 1, 1) := by decide +kernel
theorem dX8_question_8 : decode cX8_question 8 = .ok (.invokevirtual 102, 3) := by decide +kernel
theorem dX8_question_11 : decode cX8_question 11 = .ok (.ifCond .eq 20, 3) := by decide +kernel
theorem dX8_question_14 : decode cX8_question 14 = .ok (.iload_n 2, 1) := by decide +kernel
theorem dX8_question_15 : decode cX8_question 15 = .ok (.invokestatic 119, 3) := by decide +kernel
theorem dX8_question_18 : decode cX8_question 18 = .ok (.ifCond .eq 13, 3) := by decide +kernel
theorem dX8_question_21 : decode cX8_question 21 = .ok (.iload_n 3, 1) := by decide +kernel
theorem dX8_question_22 : decode cX8_question 22 = .ok (.iconst 1, 1) := by decide +kernel
theorem dX8_question_23 : decode cX8_question 23 = .ok (.bipush 99, 2) := by decide +kernel
theorem dX8_question_25 : decode cX8_question 25 = .ok (.invokestatic 91, 3) := by decide +kernel
theorem dX8_question_28 : decode cX8_question 28 = .ok (.ifCond .ne 5, 3) := by decide +kernel
theorem dX8_question_31 : decode cX8_question 31 = .ok (.iconst (-1), 1) := by decide +kernel
theorem dX8_question_32 : decode cX8_question 32 = .ok (.ireturn, 1) := by decide +kernel
theorem dX8_question_33 : decode cX8_question 33 = .ok (.aload_n 0, 1) := by decide +kernel
theorem dX8_question_34 : decode cX8_question 34 = .ok (.getfield 10, 3) := by decide +kernel
theorem dX8_question_37 : decode cX8_question 37 = .ok (.getfield 258, 3) := by decide +kernel
theorem dX8_question_40 : decode cX8_question 40 = .ok (.invokevirtual 98, 3) := by decide +kernel
theorem dX8_question_43 : decode cX8_question 43 = .ok (.ifCond .eq 6, 3) := by decide +kernel
theorem dX8_question_46 : decode cX8_question 46 = .ok (.bipush (-2), 2) := by decide +kernel
theorem dX8_question_48 : decode cX8_question 48 = .ok (.ireturn, 1) := by decide +kernel
theorem dX8_question_49 : decode cX8_question 49 = .ok (.aload_n 0, 1) := by decide +kernel
theorem dX8_question_50 : decode cX8_question 50 = .ok (.getfield 10, 3) := by decide +kernel
theorem dX8_question_53 : decode cX8_question 53 = .ok (.getfield 258, 3) := by decide +kernel
theorem dX8_question_56 : decode cX8_question 56 = .ok (.invokevirtual 79, 3) := by decide +kernel
theorem dX8_question_59 : decode cX8_question 59 = .ok (.istore 4, 2) := by decide +kernel
theorem dX8_question_61 : decode cX8_question 61 = .ok (.aload_n 0, 1) := by decide +kernel
theorem dX8_question_62 : decode cX8_question 62 = .ok (.getfield 10, 3) := by decide +kernel
theorem dX8_question_65 : decode cX8_question 65 = .ok (.getfield 258, 3) := by decide +kernel
theorem dX8_question_68 : decode cX8_question 68 = .ok (.iload 4, 2) := by decide +kernel
theorem dX8_question_70 : decode cX8_question 70 = .ok (.iconst 0, 1) := by decide +kernel
theorem dX8_question_71 : decode cX8_question 71 = .ok (.iload_n 1, 1) := by decide +kernel
theorem dX8_question_72 : decode cX8_question 72 = .ok (.invokevirtual 83, 3) := by decide +kernel
theorem dX8_question_75 : decode cX8_question 75 = .ok (.aload_n 0, 1) := by decide +kernel
theorem dX8_question_76 : decode cX8_question 76 = .ok (.getfield 10, 3) := by decide +kernel
theorem dX8_question_79 : decode cX8_question 79 = .ok (.getfield 258, 3) := by decide +kernel
theorem dX8_question_82 : decode cX8_question 82 = .ok (.iload 4, 2) := by decide +kernel
theorem dX8_question_84 : decode cX8_question 84 = .ok (.iconst 1, 1) := by decide +kernel
theorem dX8_question_85 : decode cX8_question 85 = .ok (.iload_n 2, 1) := by decide +kernel
theorem dX8_question_86 : decode cX8_question 86 = .ok (.invokevirtual 83, 3) := by decide +kernel
theorem dX8_question_89 : decode cX8_question 89 = .ok (.aload_n 0, 1) := by decide +kernel
theorem dX8_question_90 : decode cX8_question 90 = .ok (.getfield 10, 3) := by decide +kernel
theorem dX8_question_93 : decode cX8_question 93 = .ok (.getfield 258, 3) := by decide +kernel
theorem dX8_question_96 : decode cX8_question 96 = .ok (.iload 4, 2) := by decide +kernel
theorem dX8_question_98 : decode cX8_question 98 = .ok (.iconst 2, 1) := by decide +kernel
theorem dX8_question_99 : decode cX8_question 99 = .ok (.iload_n 3, 1) := by decide +kernel
theorem dX8_question_100 : decode cX8_question 100 = .ok (.invokevirtual 83, 3) := by decide +kernel
theorem dX8_question_103 : decode cX8_question 103 = .ok (.aload_n 0, 1) := by decide +kernel
theorem dX8_question_104 : decode cX8_question 104 = .ok (.getfield 10, 3) := by decide +kernel
theorem dX8_question_107 : decode cX8_question 107 = .ok (.getfield 258, 3) := by decide +kernel
theorem dX8_question_110 : decode cX8_question 110 = .ok (.iload 4, 2) := by decide +kernel
theorem dX8_question_112 : decode cX8_question 112 = .ok (.iconst 3, 1) := by decide +kernel
theorem dX8_question_113 : decode cX8_question 113 = .ok (.iconst 0, 1) := by decide +kernel
theorem dX8_question_114 : decode cX8_question 114 = .ok (.invokevirtual 83, 3) := by decide +kernel
theorem dX8_question_117 : decode cX8_question 117 = .ok (.iload 4, 2) := by decide +kernel
theorem dX8_question_119 : decode cX8_question 119 = .ok (.ireturn, 1) := by decide +kernel
theorem dX8_answer_0 : decode cX8_answer 0 = .ok (.aload_n 0, 1) := by decide +kernel
theorem dX8_answer_1 : decode cX8_answer 1 = .ok (.getfield 10, 3) := by decide +kernel
theorem dX8_answer_4 : decode cX8_answer 4 = .ok (.getfield 258, 3) := by decide +kernel
theorem dX8_answer_7 : decode cX8_answer 7 = .ok (.iload_n 1, 1) := by decide +kernel
theorem dX8_answer_8 : decode cX8_answer 8 = .ok (.invokevirtual 102, 3) := by decide +kernel
theorem dX8_answer_11 : decode cX8_answer 11 = .ok (.ifCond .ne 5, 3) := by decide +kernel
theorem dX8_answer_14 : decode cX8_answer 14 = .ok (.iconst (-1), 1) := by decide +kernel
theorem dX8_answer_15 : decode cX8_answer 15 = .ok (.ireturn, 1) := by decide +kernel
theorem dX8_answer_16 : decode cX8_answer 16 = .ok (.aload_n 0, 1) := by decide +kernel
theorem dX8_answer_17 : decode cX8_answer 17 = .ok (.getfield 10, 3) := by decide +kernel
theorem dX8_answer_20 : decode cX8_answer 20 = .ok (.getfield 258, 3) := by decide +kernel
theorem dX8_answer_23 : decode cX8_answer 23 = .ok (.iload_n 1, 1) := by decide +kernel
theorem dX8_answer_24 : decode cX8_answer 24 = .ok (.iconst 3, 1) := by decide +kernel
theorem dX8_answer_25 : decode cX8_answer 25 = .ok (.invokevirtual 105, 3) := by decide +kernel
theorem dX8_answer_28 : decode cX8_answer 28 = .ok (.ifCond .eq 6, 3) := by decide +kernel
theorem dX8_answer_31 : decode cX8_answer 31 = .ok (.bipush (-4), 2) := by decide +kernel
theorem dX8_answer_33 : decode cX8_answer 33 = .ok (.ireturn, 1) := by decide +kernel
theorem dX8_answer_34 : decode cX8_answer 34 = .ok (.aload_n 0, 1) := by decide +kernel
theorem dX8_answer_35 : decode cX8_answer 35 = .ok (.getfield 10, 3) := by decide +kernel
theorem dX8_answer_38 : decode cX8_answer 38 = .ok (.getfield 258, 3) := by decide +kernel
theorem dX8_answer_41 : decode cX8_answer 41 = .ok (.iload_n 1, 1) := by decide +kernel
theorem dX8_answer_42 : decode cX8_answer 42 = .ok (.iconst 3, 1) := by decide +kernel
theorem dX8_answer_43 : decode cX8_answer 43 = .ok (.iload_n 2, 1) := by decide +kernel
theorem dX8_answer_44 : decode cX8_answer 44 = .ok (.ifCond .eq 7, 3) := by decide +kernel
theorem dX8_answer_47 : decode cX8_answer 47 = .ok (.iconst 1, 1) := by decide +kernel
theorem dX8_answer_48 : decode cX8_answer 48 = .ok (.goto 4, 3) := by decide +kernel
theorem dX8_answer_51 : decode cX8_answer 51 = .ok (.iconst 2, 1) := by decide +kernel
theorem dX8_answer_52 : decode cX8_answer 52 = .ok (.invokevirtual 83, 3) := by decide +kernel
theorem dX8_answer_55 : decode cX8_answer 55 = .ok (.aload_n 0, 1) := by decide +kernel
theorem dX8_answer_56 : decode cX8_answer 56 = .ok (.getfield 10, 3) := by decide +kernel
theorem dX8_answer_59 : decode cX8_answer 59 = .ok (.invokevirtual 261, 3) := by decide +kernel
theorem dX8_answer_62 : decode cX8_answer 62 = .ok (.ireturn, 1) := by decide +kernel
theorem dX8_next_0 : decode cX8_next 0 = .ok (.aload_n 0, 1) := by decide +kernel
theorem dX8_next_1 : decode cX8_next 1 = .ok (.getfield 10, 3) := by decide +kernel
theorem dX8_next_4 : decode cX8_next 4 = .ok (.getfield 95, 3) := by decide +kernel
theorem dX8_next_7 : decode cX8_next 7 = .ok (.iload_n 1, 1) := by decide +kernel
theorem dX8_next_8 : decode cX8_next 8 = .ok (.invokevirtual 102, 3) := by decide +kernel
theorem dX8_next_11 : decode cX8_next 11 = .ok (.ifCond .ne 5, 3) := by decide +kernel
theorem dX8_next_14 : decode cX8_next 14 = .ok (.iconst (-1), 1) := by decide +kernel
theorem dX8_next_15 : decode cX8_next 15 = .ok (.ireturn, 1) := by decide +kernel
theorem dX8_next_16 : decode cX8_next 16 = .ok (.aload_n 0, 1) := by decide +kernel
theorem dX8_next_17 : decode cX8_next 17 = .ok (.getfield 26, 3) := by decide +kernel
theorem dX8_next_20 : decode cX8_next 20 = .ok (.aload_n 0, 1) := by decide +kernel
theorem dX8_next_21 : decode cX8_next 21 = .ok (.getfield 10, 3) := by decide +kernel
theorem dX8_next_24 : decode cX8_next 24 = .ok (.iload_n 1, 1) := by decide +kernel
theorem dX8_next_25 : decode cX8_next 25 = .ok (.invokevirtual 150, 3) := by decide +kernel
theorem dX8_next_28 : decode cX8_next 28 = .ok (.bipush (-3), 2) := by decide +kernel
theorem dX8_next_30 : decode cX8_next 30 = .ok (.istore_n 2, 1) := by decide +kernel
theorem dX8_next_31 : decode cX8_next 31 = .ok (.lconst 0, 1) := by decide +kernel
theorem dX8_next_32 : decode cX8_next 32 = .ok (.lstore_n 3, 1) := by decide +kernel
theorem dX8_next_33 : decode cX8_next 33 = .ok (.iconst 0, 1) := by decide +kernel
theorem dX8_next_34 : decode cX8_next 34 = .ok (.istore 5, 2) := by decide +kernel
theorem dX8_next_36 : decode cX8_next 36 = .ok (.iload 5, 2) := by decide +kernel
theorem dX8_next_38 : decode cX8_next 38 = .ok (.aload_n 0, 1) := by decide +kernel
theorem dX8_next_39 : decode cX8_next 39 = .ok (.getfield 10, 3) := by decide +kernel
theorem dX8_next_42 : decode cX8_next 42 = .ok (.getfield 258, 3) := by decide +kernel
theorem dX8_next_45 : decode cX8_next 45 = .ok (.getfield 228, 3) := by decide +kernel
theorem dX8_next_48 : decode cX8_next 48 = .ok (.if_icmp .ge 121, 3) := by decide +kernel
theorem dX8_next_51 : decode cX8_next 51 = .ok (.aload_n 0, 1) := by decide +kernel
theorem dX8_next_52 : decode cX8_next 52 = .ok (.getfield 10, 3) := by decide +kernel
theorem dX8_next_55 : decode cX8_next 55 = .ok (.getfield 258, 3) := by decide +kernel
theorem dX8_next_58 : decode cX8_next 58 = .ok (.iload 5, 2) := by decide +kernel
theorem dX8_next_60 : decode cX8_next 60 = .ok (.iconst 0, 1) := by decide +kernel
theorem dX8_next_61 : decode cX8_next 61 = .ok (.invokevirtual 105, 3) := by decide +kernel
theorem dX8_next_64 : decode cX8_next 64 = .ok (.iload_n 1, 1) := by decide +kernel
theorem dX8_next_65 : decode cX8_next 65 = .ok (.if_icmp .eq 6, 3) := by decide +kernel
theorem dX8_next_68 : decode cX8_next 68 = .ok (.goto 95, 3) := by decide +kernel
theorem dX8_next_71 : decode cX8_next 71 = .ok (.aload_n 0, 1) := by decide +kernel
theorem dX8_next_72 : decode cX8_next 72 = .ok (.getfield 10, 3) := by decide +kernel
theorem dX8_next_75 : decode cX8_next 75 = .ok (.getfield 258, 3) := by decide +kernel
theorem dX8_next_78 : decode cX8_next 78 = .ok (.iload 5, 2) := by decide +kernel
theorem dX8_next_80 : decode cX8_next 80 = .ok (.iconst 3, 1) := by decide +kernel
theorem dX8_next_81 : decode cX8_next 81 = .ok (.invokevirtual 105, 3) := by decide +kernel
theorem dX8_next_84 : decode cX8_next 84 = .ok (.ifCond .eq 6, 3) := by decide +kernel
theorem dX8_next_87 : decode cX8_next 87 = .ok (.goto 76, 3) := by decide +kernel
theorem dX8_next_90 : decode cX8_next 90 = .ok (.aload_n 0, 1) := by decide +kernel
theorem dX8_next_91 : decode cX8_next 91 = .ok (.getfield 26, 3) := by decide +kernel
theorem dX8_next_94 : decode cX8_next 94 = .ok (.aload_n 0, 1) := by decide +kernel
theorem dX8_next_95 : decode cX8_next 95 = .ok (.getfield 10, 3) := by decide +kernel
theorem dX8_next_98 : decode cX8_next 98 = .ok (.getfield 258, 3) := by decide +kernel
theorem dX8_next_101 : decode cX8_next 101 = .ok (.iload 5, 2) := by decide +kernel
theorem dX8_next_103 : decode cX8_next 103 = .ok (.iconst 1, 1) := by decide +kernel
theorem dX8_next_104 : decode cX8_next 104 = .ok (.invokevirtual 105, 3) := by decide +kernel
theorem dX8_next_107 : decode cX8_next 107 = .ok (.invokevirtual 264, 3) := by decide +kernel
theorem dX8_next_110 : decode cX8_next 110 = .ok (.lstore 6, 2) := by decide +kernel
theorem dX8_next_112 : decode cX8_next 112 = .ok (.aload_n 0, 1) := by decide +kernel
theorem dX8_next_113 : decode cX8_next 113 = .ok (.getfield 10, 3) := by decide +kernel
theorem dX8_next_116 : decode cX8_next 116 = .ok (.getfield 258, 3) := by decide +kernel
theorem dX8_next_119 : decode cX8_next 119 = .ok (.iload 5, 2) := by decide +kernel
theorem dX8_next_121 : decode cX8_next 121 = .ok (.iconst 2, 1) := by decide +kernel
theorem dX8_next_122 : decode cX8_next 122 = .ok (.invokevirtual 105, 3) := by decide +kernel
theorem dX8_next_125 : decode cX8_next 125 = .ok (.i2l, 1) := by decide +kernel
theorem dX8_next_126 : decode cX8_next 126 = .ok (.lload 6, 2) := by decide +kernel
theorem dX8_next_128 : decode cX8_next 128 = .ok (.aload_n 0, 1) := by decide +kernel
theorem dX8_next_129 : decode cX8_next 129 = .ok (.getfield 26, 3) := by decide +kernel
theorem dX8_next_132 : decode cX8_next 132 = .ok (.getfield 158, 3) := by decide +kernel
theorem dX8_next_135 : decode cX8_next 135 = .ok (.lload 6, 2) := by decide +kernel
theorem dX8_next_137 : decode cX8_next 137 = .ok (.lsub, 1) := by decide +kernel
theorem dX8_next_138 : decode cX8_next 138 = .ok (.invokestatic 174, 3) := by decide +kernel
theorem dX8_next_141 : decode cX8_next 141 = .ok (.lmul, 1) := by decide +kernel
theorem dX8_next_142 : decode cX8_next 142 = .ok (.lstore 8, 2) := by decide +kernel
theorem dX8_next_144 : decode cX8_next 144 = .ok (.iload_n 2, 1) := by decide +kernel
theorem dX8_next_145 : decode cX8_next 145 = .ok (.bipush (-3), 2) := by decide +kernel
theorem dX8_next_147 : decode cX8_next 147 = .ok (.if_icmp .eq 10, 3) := by decide +kernel
theorem dX8_next_150 : decode cX8_next 150 = .ok (.lload 8, 2) := by decide +kernel
theorem dX8_next_152 : decode cX8_next 152 = .ok (.lload_n 3, 1) := by decide +kernel
theorem dX8_next_153 : decode cX8_next 153 = .ok (.lcmp, 1) := by decide +kernel
theorem dX8_next_154 : decode cX8_next 154 = .ok (.ifCond .ge 9, 3) := by decide +kernel
theorem dX8_next_157 : decode cX8_next 157 = .ok (.iload 5, 2) := by decide +kernel
theorem dX8_next_159 : decode cX8_next 159 = .ok (.istore_n 2, 1) := by decide +kernel
theorem dX8_next_160 : decode cX8_next 160 = .ok (.lload 8, 2) := by decide +kernel
theorem dX8_next_162 : decode cX8_next 162 = .ok (.lstore_n 3, 1) := by decide +kernel
theorem dX8_next_163 : decode cX8_next 163 = .ok (.iinc 5 1, 3) := by decide +kernel
theorem dX8_next_166 : decode cX8_next 166 = .ok (.goto (-130), 3) := by decide +kernel
theorem dX8_next_169 : decode cX8_next 169 = .ok (.iload_n 2, 1) := by decide +kernel
theorem dX8_next_170 : decode cX8_next 170 = .ok (.ireturn, 1) := by decide +kernel
theorem dX8_prove_0 : decode cX8_prove 0 = .ok (.aload_n 0, 1) := by decide +kernel
theorem dX8_prove_1 : decode cX8_prove 1 = .ok (.getfield 10, 3) := by decide +kernel
theorem dX8_prove_4 : decode cX8_prove 4 = .ok (.getfield 95, 3) := by decide +kernel
theorem dX8_prove_7 : decode cX8_prove 7 = .ok (.iload_n 1, 1) := by decide +kernel
theorem dX8_prove_8 : decode cX8_prove 8 = .ok (.invokevirtual 102, 3) := by decide +kernel
theorem dX8_prove_11 : decode cX8_prove 11 = .ok (.ifCond .ne 5, 3) := by decide +kernel
theorem dX8_prove_14 : decode cX8_prove 14 = .ok (.iconst (-1), 1) := by decide +kernel
theorem dX8_prove_15 : decode cX8_prove 15 = .ok (.ireturn, 1) := by decide +kernel
theorem dX8_prove_16 : decode cX8_prove 16 = .ok (.aload_n 0, 1) := by decide +kernel
theorem dX8_prove_17 : decode cX8_prove 17 = .ok (.getfield 26, 3) := by decide +kernel
theorem dX8_prove_20 : decode cX8_prove 20 = .ok (.aload_n 0, 1) := by decide +kernel
theorem dX8_prove_21 : decode cX8_prove 21 = .ok (.getfield 10, 3) := by decide +kernel
theorem dX8_prove_24 : decode cX8_prove 24 = .ok (.iload_n 1, 1) := by decide +kernel
theorem dX8_prove_25 : decode cX8_prove 25 = .ok (.invokevirtual 150, 3) := by decide +kernel
theorem dX8_prove_28 : decode cX8_prove 28 = .ok (.aload_n 0, 1) := by decide +kernel
theorem dX8_prove_29 : decode cX8_prove 29 = .ok (.getfield 26, 3) := by decide +kernel
theorem dX8_prove_32 : decode cX8_prove 32 = .ok (.getfield 162, 3) := by decide +kernel
theorem dX8_prove_35 : decode cX8_prove 35 = .ok (.bipush (-3), 2) := by decide +kernel
theorem dX8_prove_37 : decode cX8_prove 37 = .ok (.if_icmp .ne 6, 3) := by decide +kernel
theorem dX8_prove_40 : decode cX8_prove 40 = .ok (.bipush (-3), 2) := by decide +kernel
theorem dX8_prove_42 : decode cX8_prove 42 = .ok (.ireturn, 1) := by decide +kernel
theorem dX8_prove_43 : decode cX8_prove 43 = .ok (.aload_n 0, 1) := by decide +kernel
theorem dX8_prove_44 : decode cX8_prove 44 = .ok (.getfield 58, 3) := by decide +kernel
theorem dX8_prove_47 : decode cX8_prove 47 = .ok (.invokevirtual 267, 3) := by decide +kernel
theorem dX8_prove_50 : decode cX8_prove 50 = .ok (.aload_n 0, 1) := by decide +kernel
theorem dX8_prove_51 : decode cX8_prove 51 = .ok (.iload_n 1, 1) := by decide +kernel
theorem dX8_prove_52 : decode cX8_prove 52 = .ok (.aload_n 0, 1) := by decide +kernel
theorem dX8_prove_53 : decode cX8_prove 53 = .ok (.getfield 26, 3) := by decide +kernel
theorem dX8_prove_56 : decode cX8_prove 56 = .ok (.getfield 162, 3) := by decide +kernel
theorem dX8_prove_59 : decode cX8_prove 59 = .ok (.invokevirtual 268, 3) := by decide +kernel
theorem dX8_prove_62 : decode cX8_prove 62 = .ok (.iconst 0, 1) := by decide +kernel
theorem dX8_prove_63 : decode cX8_prove 63 = .ok (.istore_n 2, 1) := by decide +kernel
theorem dX8_prove_64 : decode cX8_prove 64 = .ok (.iload_n 2, 1) := by decide +kernel
theorem dX8_prove_65 : decode cX8_prove 65 = .ok (.aload_n 0, 1) := by decide +kernel
theorem dX8_prove_66 : decode cX8_prove 66 = .ok (.getfield 10, 3) := by decide +kernel
theorem dX8_prove_69 : decode cX8_prove 69 = .ok (.getfield 122, 3) := by decide +kernel
theorem dX8_prove_72 : decode cX8_prove 72 = .ok (.getfield 228, 3) := by decide +kernel
theorem dX8_prove_75 : decode cX8_prove 75 = .ok (.if_icmp .ge 52, 3) := by decide +kernel
theorem dX8_prove_78 : decode cX8_prove 78 = .ok (.aload_n 0, 1) := by decide +kernel
theorem dX8_prove_79 : decode cX8_prove 79 = .ok (.getfield 10, 3) := by decide +kernel
theorem dX8_prove_82 : decode cX8_prove 82 = .ok (.iload_n 2, 1) := by decide +kernel
theorem dX8_prove_83 : decode cX8_prove 83 = .ok (.iload_n 1, 1) := by decide +kernel
theorem dX8_prove_84 : decode cX8_prove 84 = .ok (.invokevirtual 271, 3) := by decide +kernel
theorem dX8_prove_87 : decode cX8_prove 87 = .ok (.ifCond .ne 6, 3) := by decide +kernel
theorem dX8_prove_90 : decode cX8_prove 90 = .ok (.goto 31, 3) := by decide +kernel
theorem dX8_prove_93 : decode cX8_prove 93 = .ok (.aload_n 0, 1) := by decide +kernel
theorem dX8_prove_94 : decode cX8_prove 94 = .ok (.iload_n 2, 1) := by decide +kernel
theorem dX8_prove_95 : decode cX8_prove 95 = .ok (.aload_n 0, 1) := by decide +kernel
theorem dX8_prove_96 : decode cX8_prove 96 = .ok (.getfield 10, 3) := by decide +kernel
theorem dX8_prove_99 : decode cX8_prove 99 = .ok (.iload_n 2, 1) := by decide +kernel
theorem dX8_prove_100 : decode cX8_prove 100 = .ok (.aload_n 0, 1) := by decide +kernel
theorem dX8_prove_101 : decode cX8_prove 101 = .ok (.getfield 26, 3) := by decide +kernel
theorem dX8_prove_104 : decode cX8_prove 104 = .ok (.getfield 162, 3) := by decide +kernel
theorem dX8_prove_107 : decode cX8_prove 107 = .ok (.invokevirtual 125, 3) := by decide +kernel
theorem dX8_prove_110 : decode cX8_prove 110 = .ok (.ifCond .eq 7, 3) := by decide +kernel
theorem dX8_prove_113 : decode cX8_prove 113 = .ok (.iconst 1, 1) := by decide +kernel
theorem dX8_prove_114 : decode cX8_prove 114 = .ok (.goto 4, 3) := by decide +kernel
theorem dX8_prove_117 : decode cX8_prove 117 = .ok (.iconst 0, 1) := by decide +kernel
theorem dX8_prove_118 : decode cX8_prove 118 = .ok (.invokevirtual 268, 3) := by decide +kernel
theorem dX8_prove_121 : decode cX8_prove 121 = .ok (.iinc 2 1, 3) := by decide +kernel
theorem dX8_prove_124 : decode cX8_prove 124 = .ok (.goto (-60), 3) := by decide +kernel
theorem dX8_prove_127 : decode cX8_prove 127 = .ok (.aload_n 0, 1) := by decide +kernel
theorem dX8_prove_128 : decode cX8_prove 128 = .ok (.getfield 58, 3) := by decide +kernel
theorem dX8_prove_131 : decode cX8_prove 131 = .ok (.getfield 228, 3) := by decide +kernel
theorem dX8_prove_134 : decode cX8_prove 134 = .ok (.ireturn, 1) := by decide +kernel
theorem dX8_addRow_0 : decode cX8_addRow 0 = .ok (.aload_n 0, 1) := by decide +kernel
theorem dX8_addRow_1 : decode cX8_addRow 1 = .ok (.getfield 58, 3) := by decide +kernel
theorem dX8_addRow_4 : decode cX8_addRow 4 = .ok (.invokevirtual 79, 3) := by decide +kernel
theorem dX8_addRow_7 : decode cX8_addRow 7 = .ok (.istore_n 3, 1) := by decide +kernel
theorem dX8_addRow_8 : decode cX8_addRow 8 = .ok (.aload_n 0, 1) := by decide +kernel
theorem dX8_addRow_9 : decode cX8_addRow 9 = .ok (.getfield 58, 3) := by decide +kernel
theorem dX8_addRow_12 : decode cX8_addRow 12 = .ok (.iload_n 3, 1) := by decide +kernel
theorem dX8_addRow_13 : decode cX8_addRow 13 = .ok (.iconst 0, 1) := by decide +kernel
theorem dX8_addRow_14 : decode cX8_addRow 14 = .ok (.iload_n 1, 1) := by decide +kernel
theorem dX8_addRow_15 : decode cX8_addRow 15 = .ok (.invokevirtual 83, 3) := by decide +kernel
theorem dX8_addRow_18 : decode cX8_addRow 18 = .ok (.aload_n 0, 1) := by decide +kernel
theorem dX8_addRow_19 : decode cX8_addRow 19 = .ok (.getfield 58, 3) := by decide +kernel
theorem dX8_addRow_22 : decode cX8_addRow 22 = .ok (.iload_n 3, 1) := by decide +kernel
theorem dX8_addRow_23 : decode cX8_addRow 23 = .ok (.iconst 1, 1) := by decide +kernel
theorem dX8_addRow_24 : decode cX8_addRow 24 = .ok (.iload_n 2, 1) := by decide +kernel
theorem dX8_addRow_25 : decode cX8_addRow 25 = .ok (.invokevirtual 83, 3) := by decide +kernel
theorem dX8_addRow_28 : decode cX8_addRow 28 = .ok (.return_, 1) := by decide +kernel
theorem dX8_row_0 : decode cX8_row 0 = .ok (.aload_n 0, 1) := by decide +kernel
theorem dX8_row_1 : decode cX8_row 1 = .ok (.getfield 58, 3) := by decide +kernel
theorem dX8_row_4 : decode cX8_row 4 = .ok (.iload_n 1, 1) := by decide +kernel
theorem dX8_row_5 : decode cX8_row 5 = .ok (.invokevirtual 102, 3) := by decide +kernel
theorem dX8_row_8 : decode cX8_row 8 = .ok (.ifCond .eq 12, 3) := by decide +kernel
theorem dX8_row_11 : decode cX8_row 11 = .ok (.iload_n 2, 1) := by decide +kernel
theorem dX8_row_12 : decode cX8_row 12 = .ok (.iconst 0, 1) := by decide +kernel
theorem dX8_row_13 : decode cX8_row 13 = .ok (.iconst 1, 1) := by decide +kernel
theorem dX8_row_14 : decode cX8_row 14 = .ok (.invokestatic 91, 3) := by decide +kernel
theorem dX8_row_17 : decode cX8_row 17 = .ok (.ifCond .ne 6, 3) := by decide +kernel
theorem dX8_row_20 : decode cX8_row 20 = .ok (.bipush (-9), 2) := by decide +kernel
theorem dX8_row_22 : decode cX8_row 22 = .ok (.ireturn, 1) := by decide +kernel
theorem dX8_row_23 : decode cX8_row 23 = .ok (.aload_n 0, 1) := by decide +kernel
theorem dX8_row_24 : decode cX8_row 24 = .ok (.getfield 58, 3) := by decide +kernel
theorem dX8_row_27 : decode cX8_row 27 = .ok (.iload_n 1, 1) := by decide +kernel
theorem dX8_row_28 : decode cX8_row 28 = .ok (.iload_n 2, 1) := by decide +kernel
theorem dX8_row_29 : decode cX8_row 29 = .ok (.invokevirtual 105, 3) := by decide +kernel
theorem dX8_row_32 : decode cX8_row 32 = .ok (.ireturn, 1) := by decide +kernel
theorem dX8_alterRow_0 : decode cX8_alterRow 0 = .ok (.aload_n 0, 1) := by decide +kernel
theorem dX8_alterRow_1 : decode cX8_alterRow 1 = .ok (.getfield 58, 3) := by decide +kernel
theorem dX8_alterRow_4 : decode cX8_alterRow 4 = .ok (.iload_n 1, 1) := by decide +kernel
theorem dX8_alterRow_5 : decode cX8_alterRow 5 = .ok (.invokevirtual 102, 3) := by decide +kernel
theorem dX8_alterRow_8 : decode cX8_alterRow 8 = .ok (.ifCond .eq 12, 3) := by decide +kernel
theorem dX8_alterRow_11 : decode cX8_alterRow 11 = .ok (.iload_n 2, 1) := by decide +kernel
theorem dX8_alterRow_12 : decode cX8_alterRow 12 = .ok (.iconst 0, 1) := by decide +kernel
theorem dX8_alterRow_13 : decode cX8_alterRow 13 = .ok (.iconst 1, 1) := by decide +kernel
theorem dX8_alterRow_14 : decode cX8_alterRow 14 = .ok (.invokestatic 91, 3) := by decide +kernel
theorem dX8_alterRow_17 : decode cX8_alterRow 17 = .ok (.ifCond .ne 6, 3) := by decide +kernel
theorem dX8_alterRow_20 : decode cX8_alterRow 20 = .ok (.bipush (-9), 2) := by decide +kernel
theorem dX8_alterRow_22 : decode cX8_alterRow 22 = .ok (.ireturn, 1) := by decide +kernel
theorem dX8_alterRow_23 : decode cX8_alterRow 23 = .ok (.aload_n 0, 1) := by decide +kernel
theorem dX8_alterRow_24 : decode cX8_alterRow 24 = .ok (.getfield 58, 3) := by decide +kernel
theorem dX8_alterRow_27 : decode cX8_alterRow 27 = .ok (.iload_n 1, 1) := by decide +kernel
theorem dX8_alterRow_28 : decode cX8_alterRow 28 = .ok (.iload_n 2, 1) := by decide +kernel
theorem dX8_alterRow_29 : decode cX8_alterRow 29 = .ok (.invokevirtual 105, 3) := by decide +kernel
theorem dX8_alterRow_32 : decode cX8_alterRow 32 = .ok (.istore 4, 2) := by decide +kernel
theorem dX8_alterRow_34 : decode cX8_alterRow 34 = .ok (.aload_n 0, 1) := by decide +kernel
theorem dX8_alterRow_35 : decode cX8_alterRow 35 = .ok (.getfield 58, 3) := by decide +kernel
theorem dX8_alterRow_38 : decode cX8_alterRow 38 = .ok (.iload_n 1, 1) := by decide +kernel
theorem dX8_alterRow_39 : decode cX8_alterRow 39 = .ok (.iload_n 2, 1) := by decide +kernel
theorem dX8_alterRow_40 : decode cX8_alterRow 40 = .ok (.iload_n 3, 1) := by decide +kernel
theorem dX8_alterRow_41 : decode cX8_alterRow 41 = .ok (.invokevirtual 83, 3) := by decide +kernel
theorem dX8_alterRow_44 : decode cX8_alterRow 44 = .ok (.iload 4, 2) := by decide +kernel
theorem dX8_alterRow_46 : decode cX8_alterRow 46 = .ok (.ireturn, 1) := by decide +kernel
theorem dX8_judge_0 : decode cX8_judge 0 = .ok (.aload_n 0, 1) := by decide +kernel
theorem dX8_judge_1 : decode cX8_judge 1 = .ok (.getfield 58, 3) := by decide +kernel
theorem dX8_judge_4 : decode cX8_judge 4 = .ok (.getfield 228, 3) := by decide +kernel
theorem dX8_judge_7 : decode cX8_judge 7 = .ok (.ifCond .ne 6, 3) := by decide +kernel
theorem dX8_judge_10 : decode cX8_judge 10 = .ok (.bipush 30, 2) := by decide +kernel
theorem dX8_judge_12 : decode cX8_judge 12 = .ok (.ireturn, 1) := by decide +kernel
theorem dX8_judge_13 : decode cX8_judge 13 = .ok (.aload_n 0, 1) := by decide +kernel
theorem dX8_judge_14 : decode cX8_judge 14 = .ok (.getfield 58, 3) := by decide +kernel
theorem dX8_judge_17 : decode cX8_judge 17 = .ok (.iconst 0, 1) := by decide +kernel
theorem dX8_judge_18 : decode cX8_judge 18 = .ok (.iconst 0, 1) := by decide +kernel
theorem dX8_judge_19 : decode cX8_judge 19 = .ok (.invokevirtual 105, 3) := by decide +kernel
theorem dX8_judge_22 : decode cX8_judge 22 = .ok (.istore_n 1, 1) := by decide +kernel
theorem dX8_judge_23 : decode cX8_judge 23 = .ok (.aload_n 0, 1) := by decide +kernel
theorem dX8_judge_24 : decode cX8_judge 24 = .ok (.getfield 58, 3) := by decide +kernel
theorem dX8_judge_27 : decode cX8_judge 27 = .ok (.iconst 0, 1) := by decide +kernel
theorem dX8_judge_28 : decode cX8_judge 28 = .ok (.iconst 1, 1) := by decide +kernel
theorem dX8_judge_29 : decode cX8_judge 29 = .ok (.invokevirtual 105, 3) := by decide +kernel
theorem dX8_judge_32 : decode cX8_judge 32 = .ok (.istore_n 2, 1) := by decide +kernel
theorem dX8_judge_33 : decode cX8_judge 33 = .ok (.aload_n 0, 1) := by decide +kernel
theorem dX8_judge_34 : decode cX8_judge 34 = .ok (.getfield 10, 3) := by decide +kernel
theorem dX8_judge_37 : decode cX8_judge 37 = .ok (.getfield 95, 3) := by decide +kernel
theorem dX8_judge_40 : decode cX8_judge 40 = .ok (.iload_n 1, 1) := by decide +kernel
theorem dX8_judge_41 : decode cX8_judge 41 = .ok (.invokevirtual 102, 3) := by decide +kernel
theorem dX8_judge_44 : decode cX8_judge 44 = .ok (.ifCond .ne 5, 3) := by decide +kernel
theorem dX8_judge_47 : decode cX8_judge 47 = .ok (.iconst 1, 1) := by decide +kernel
theorem dX8_judge_48 : decode cX8_judge 48 = .ok (.ireturn, 1) := by decide +kernel
theorem dX8_judge_49 : decode cX8_judge 49 = .ok (.aload_n 0, 1) := by decide +kernel
theorem dX8_judge_50 : decode cX8_judge 50 = .ok (.getfield 26, 3) := by decide +kernel
theorem dX8_judge_53 : decode cX8_judge 53 = .ok (.aload_n 0, 1) := by decide +kernel
theorem dX8_judge_54 : decode cX8_judge 54 = .ok (.getfield 10, 3) := by decide +kernel
theorem dX8_judge_57 : decode cX8_judge 57 = .ok (.iload_n 1, 1) := by decide +kernel
theorem dX8_judge_58 : decode cX8_judge 58 = .ok (.invokevirtual 150, 3) := by decide +kernel
theorem dX8_judge_61 : decode cX8_judge 61 = .ok (.aload_n 0, 1) := by decide +kernel
theorem dX8_judge_62 : decode cX8_judge 62 = .ok (.getfield 26, 3) := by decide +kernel
theorem dX8_judge_65 : decode cX8_judge 65 = .ok (.getfield 162, 3) := by decide +kernel
theorem dX8_judge_68 : decode cX8_judge 68 = .ok (.bipush (-3), 2) := by decide +kernel
theorem dX8_judge_70 : decode cX8_judge 70 = .ok (.if_icmp .eq 14, 3) := by decide +kernel
theorem dX8_judge_73 : decode cX8_judge 73 = .ok (.aload_n 0, 1) := by decide +kernel
theorem dX8_judge_74 : decode cX8_judge 74 = .ok (.getfield 26, 3) := by decide +kernel
theorem dX8_judge_77 : decode cX8_judge 77 = .ok (.getfield 162, 3) := by decide +kernel
theorem dX8_judge_80 : decode cX8_judge 80 = .ok (.iload_n 2, 1) := by decide +kernel
theorem dX8_judge_81 : decode cX8_judge 81 = .ok (.if_icmp .eq 5, 3) := by decide +kernel
theorem dX8_judge_84 : decode cX8_judge 84 = .ok (.iconst 1, 1) := by decide +kernel
theorem dX8_judge_85 : decode cX8_judge 85 = .ok (.ireturn, 1) := by decide +kernel
theorem dX8_judge_86 : decode cX8_judge 86 = .ok (.bipush (-3), 2) := by decide +kernel
theorem dX8_judge_88 : decode cX8_judge 88 = .ok (.istore_n 3, 1) := by decide +kernel
theorem dX8_judge_89 : decode cX8_judge 89 = .ok (.iconst 1, 1) := by decide +kernel
theorem dX8_judge_90 : decode cX8_judge 90 = .ok (.istore 4, 2) := by decide +kernel
theorem dX8_judge_92 : decode cX8_judge 92 = .ok (.iload 4, 2) := by decide +kernel
theorem dX8_judge_94 : decode cX8_judge 94 = .ok (.aload_n 0, 1) := by decide +kernel
theorem dX8_judge_95 : decode cX8_judge 95 = .ok (.getfield 58, 3) := by decide +kernel
theorem dX8_judge_98 : decode cX8_judge 98 = .ok (.getfield 228, 3) := by decide +kernel
theorem dX8_judge_101 : decode cX8_judge 101 = .ok (.if_icmp .ge 79, 3) := by decide +kernel
theorem dX8_judge_104 : decode cX8_judge 104 = .ok (.aload_n 0, 1) := by decide +kernel
theorem dX8_judge_105 : decode cX8_judge 105 = .ok (.getfield 10, 3) := by decide +kernel
theorem dX8_judge_108 : decode cX8_judge 108 = .ok (.iload_n 1, 1) := by decide +kernel
theorem dX8_judge_109 : decode cX8_judge 109 = .ok (.iload_n 3, 1) := by decide +kernel
theorem dX8_judge_110 : decode cX8_judge 110 = .ok (.invokevirtual 274, 3) := by decide +kernel
theorem dX8_judge_113 : decode cX8_judge 113 = .ok (.istore_n 3, 1) := by decide +kernel
theorem dX8_judge_114 : decode cX8_judge 114 = .ok (.iload_n 3, 1) := by decide +kernel
theorem dX8_judge_115 : decode cX8_judge 115 = .ok (.bipush (-3), 2) := by decide +kernel
theorem dX8_judge_117 : decode cX8_judge 117 = .ok (.if_icmp .eq 17, 3) := by decide +kernel
theorem dX8_judge_120 : decode cX8_judge 120 = .ok (.aload_n 0, 1) := by decide +kernel
theorem dX8_judge_121 : decode cX8_judge 121 = .ok (.getfield 58, 3) := by decide +kernel
theorem dX8_judge_124 : decode cX8_judge 124 = .ok (.iload 4, 2) := by decide +kernel
theorem dX8_judge_126 : decode cX8_judge 126 = .ok (.iconst 0, 1) := by decide +kernel
theorem dX8_judge_127 : decode cX8_judge 127 = .ok (.invokevirtual 105, 3) := by decide +kernel
theorem dX8_judge_130 : decode cX8_judge 130 = .ok (.iload_n 3, 1) := by decide +kernel
theorem dX8_judge_131 : decode cX8_judge 131 = .ok (.if_icmp .eq 8, 3) := by decide +kernel
theorem dX8_judge_134 : decode cX8_judge 134 = .ok (.iload 4, 2) := by decide +kernel
theorem dX8_judge_136 : decode cX8_judge 136 = .ok (.iconst 1, 1) := by decide +kernel
theorem dX8_judge_137 : decode cX8_judge 137 = .ok (.iadd, 1) := by decide +kernel
theorem dX8_judge_138 : decode cX8_judge 138 = .ok (.ireturn, 1) := by decide +kernel
theorem dX8_judge_139 : decode cX8_judge 139 = .ok (.aload_n 0, 1) := by decide +kernel
theorem dX8_judge_140 : decode cX8_judge 140 = .ok (.getfield 58, 3) := by decide +kernel
theorem dX8_judge_143 : decode cX8_judge 143 = .ok (.iload 4, 2) := by decide +kernel
theorem dX8_judge_145 : decode cX8_judge 145 = .ok (.iconst 1, 1) := by decide +kernel
theorem dX8_judge_146 : decode cX8_judge 146 = .ok (.invokevirtual 105, 3) := by decide +kernel
theorem dX8_judge_149 : decode cX8_judge 149 = .ok (.aload_n 0, 1) := by decide +kernel
theorem dX8_judge_150 : decode cX8_judge 150 = .ok (.getfield 10, 3) := by decide +kernel
theorem dX8_judge_153 : decode cX8_judge 153 = .ok (.iload_n 3, 1) := by decide +kernel
theorem dX8_judge_154 : decode cX8_judge 154 = .ok (.iload_n 2, 1) := by decide +kernel
theorem dX8_judge_155 : decode cX8_judge 155 = .ok (.invokevirtual 125, 3) := by decide +kernel
theorem dX8_judge_158 : decode cX8_judge 158 = .ok (.ifCond .eq 7, 3) := by decide +kernel
theorem dX8_judge_161 : decode cX8_judge 161 = .ok (.iconst 1, 1) := by decide +kernel
theorem dX8_judge_162 : decode cX8_judge 162 = .ok (.goto 4, 3) := by decide +kernel
theorem dX8_judge_165 : decode cX8_judge 165 = .ok (.iconst 0, 1) := by decide +kernel
theorem dX8_judge_166 : decode cX8_judge 166 = .ok (.if_icmp .eq 8, 3) := by decide +kernel
theorem dX8_judge_169 : decode cX8_judge 169 = .ok (.iload 4, 2) := by decide +kernel
theorem dX8_judge_171 : decode cX8_judge 171 = .ok (.iconst 1, 1) := by decide +kernel
theorem dX8_judge_172 : decode cX8_judge 172 = .ok (.iadd, 1) := by decide +kernel
theorem dX8_judge_173 : decode cX8_judge 173 = .ok (.ireturn, 1) := by decide +kernel
theorem dX8_judge_174 : decode cX8_judge 174 = .ok (.iinc 4 1, 3) := by decide +kernel
theorem dX8_judge_177 : decode cX8_judge 177 = .ok (.goto (-85), 3) := by decide +kernel
theorem dX8_judge_180 : decode cX8_judge 180 = .ok (.aload_n 0, 1) := by decide +kernel
theorem dX8_judge_181 : decode cX8_judge 181 = .ok (.getfield 10, 3) := by decide +kernel
theorem dX8_judge_184 : decode cX8_judge 184 = .ok (.iload_n 1, 1) := by decide +kernel
theorem dX8_judge_185 : decode cX8_judge 185 = .ok (.iload_n 3, 1) := by decide +kernel
theorem dX8_judge_186 : decode cX8_judge 186 = .ok (.invokevirtual 274, 3) := by decide +kernel
theorem dX8_judge_189 : decode cX8_judge 189 = .ok (.bipush (-3), 2) := by decide +kernel
theorem dX8_judge_191 : decode cX8_judge 191 = .ok (.if_icmp .ne 7, 3) := by decide +kernel
theorem dX8_judge_194 : decode cX8_judge 194 = .ok (.iconst 0, 1) := by decide +kernel
theorem dX8_judge_195 : decode cX8_judge 195 = .ok (.goto 5, 3) := by decide +kernel
theorem dX8_judge_198 : decode cX8_judge 198 = .ok (.bipush 20, 2) := by decide +kernel
theorem dX8_judge_200 : decode cX8_judge 200 = .ok (.ireturn, 1) := by decide +kernel
theorem dX8_sheet_0 : decode cX8_sheet 0 = .ok (.iload_n 1, 1) := by decide +kernel
theorem dX8_sheet_1 : decode cX8_sheet 1 = .ok (.invokestatic 129, 3) := by decide +kernel
theorem dX8_sheet_4 : decode cX8_sheet 4 = .ok (.ifCond .eq 12, 3) := by decide +kernel
theorem dX8_sheet_7 : decode cX8_sheet 7 = .ok (.iload_n 2, 1) := by decide +kernel
theorem dX8_sheet_8 : decode cX8_sheet 8 = .ok (.iconst (-1), 1) := by decide +kernel
theorem dX8_sheet_9 : decode cX8_sheet 9 = .ok (.iconst 3, 1) := by decide +kernel
theorem dX8_sheet_10 : decode cX8_sheet 10 = .ok (.invokestatic 91, 3) := by decide +kernel
theorem dX8_sheet_13 : decode cX8_sheet 13 = .ok (.ifCond .ne 5, 3) := by decide +kernel
theorem dX8_sheet_16 : decode cX8_sheet 16 = .ok (.iconst (-1), 1) := by decide +kernel
theorem dX8_sheet_17 : decode cX8_sheet 17 = .ok (.ireturn, 1) := by decide +kernel
theorem dX8_sheet_18 : decode cX8_sheet 18 = .ok (.iload_n 2, 1) := by decide +kernel
theorem dX8_sheet_19 : decode cX8_sheet 19 = .ok (.iconst (-1), 1) := by decide +kernel
theorem dX8_sheet_20 : decode cX8_sheet 20 = .ok (.if_icmp .ne 16, 3) := by decide +kernel
theorem dX8_sheet_23 : decode cX8_sheet 23 = .ok (.aload_n 0, 1) := by decide +kernel
theorem dX8_sheet_24 : decode cX8_sheet 24 = .ok (.getfield 65, 3) := by decide +kernel
theorem dX8_sheet_27 : decode cX8_sheet 27 = .ok (.iload_n 1, 1) := by decide +kernel
theorem dX8_sheet_28 : decode cX8_sheet 28 = .ok (.aaload, 1) := by decide +kernel
theorem dX8_sheet_29 : decode cX8_sheet 29 = .ok (.iconst (-1), 1) := by decide +kernel
theorem dX8_sheet_30 : decode cX8_sheet 30 = .ok (.iconst 0, 1) := by decide +kernel
theorem dX8_sheet_31 : decode cX8_sheet 31 = .ok (.invokevirtual 277, 3) := by decide +kernel
theorem dX8_sheet_34 : decode cX8_sheet 34 = .ok (.iconst 1, 1) := by decide +kernel
theorem dX8_sheet_35 : decode cX8_sheet 35 = .ok (.ireturn, 1) := by decide +kernel
theorem dX8_sheet_36 : decode cX8_sheet 36 = .ok (.iload_n 3, 1) := by decide +kernel
theorem dX8_sheet_37 : decode cX8_sheet 37 = .ok (.bipush 40, 2) := by decide +kernel
theorem dX8_sheet_39 : decode cX8_sheet 39 = .ok (.if_icmp .le 5, 3) := by decide +kernel
theorem dX8_sheet_42 : decode cX8_sheet 42 = .ok (.iconst (-1), 1) := by decide +kernel
theorem dX8_sheet_43 : decode cX8_sheet 43 = .ok (.ireturn, 1) := by decide +kernel
theorem dX8_sheet_44 : decode cX8_sheet 44 = .ok (.iload_n 3, 1) := by decide +kernel
theorem dX8_sheet_45 : decode cX8_sheet 45 = .ok (.ifCond .ge 6, 3) := by decide +kernel
theorem dX8_sheet_48 : decode cX8_sheet 48 = .ok (.bipush (-14), 2) := by decide +kernel
theorem dX8_sheet_50 : decode cX8_sheet 50 = .ok (.ireturn, 1) := by decide +kernel
theorem dX8_sheet_51 : decode cX8_sheet 51 = .ok (.aload_n 0, 1) := by decide +kernel
theorem dX8_sheet_52 : decode cX8_sheet 52 = .ok (.getfield 65, 3) := by decide +kernel
theorem dX8_sheet_55 : decode cX8_sheet 55 = .ok (.iload_n 1, 1) := by decide +kernel
theorem dX8_sheet_56 : decode cX8_sheet 56 = .ok (.aaload, 1) := by decide +kernel
theorem dX8_sheet_57 : decode cX8_sheet 57 = .ok (.iload_n 2, 1) := by decide +kernel
theorem dX8_sheet_58 : decode cX8_sheet 58 = .ok (.iload_n 3, 1) := by decide +kernel
theorem dX8_sheet_59 : decode cX8_sheet 59 = .ok (.invokevirtual 277, 3) := by decide +kernel
theorem dX8_sheet_62 : decode cX8_sheet 62 = .ok (.iconst 1, 1) := by decide +kernel
theorem dX8_sheet_63 : decode cX8_sheet 63 = .ok (.ireturn, 1) := by decide +kernel
theorem dX8_put_0 : decode cX8_put 0 = .ok (.iload_n 1, 1) := by decide +kernel
theorem dX8_put_1 : decode cX8_put 1 = .ok (.invokestatic 129, 3) := by decide +kernel
theorem dX8_put_4 : decode cX8_put 4 = .ok (.ifCond .ne 5, 3) := by decide +kernel
theorem dX8_put_7 : decode cX8_put 7 = .ok (.iconst (-1), 1) := by decide +kernel
theorem dX8_put_8 : decode cX8_put 8 = .ok (.ireturn, 1) := by decide +kernel
theorem dX8_put_9 : decode cX8_put 9 = .ok (.aload_n 0, 1) := by decide +kernel
theorem dX8_put_10 : decode cX8_put 10 = .ok (.getfield 65, 3) := by decide +kernel
theorem dX8_put_13 : decode cX8_put 13 = .ok (.iload_n 1, 1) := by decide +kernel
theorem dX8_put_14 : decode cX8_put 14 = .ok (.aaload, 1) := by decide +kernel
theorem dX8_put_15 : decode cX8_put 15 = .ok (.getfield 279, 3) := by decide +kernel
theorem dX8_put_18 : decode cX8_put 18 = .ok (.iconst (-1), 1) := by decide +kernel
theorem dX8_put_19 : decode cX8_put 19 = .ok (.if_icmp .ne 6, 3) := by decide +kernel
theorem dX8_put_22 : decode cX8_put 22 = .ok (.bipush (-11), 2) := by decide +kernel
theorem dX8_put_24 : decode cX8_put 24 = .ok (.ireturn, 1) := by decide +kernel
theorem dX8_put_25 : decode cX8_put 25 = .ok (.aload_n 0, 1) := by decide +kernel
theorem dX8_put_26 : decode cX8_put 26 = .ok (.getfield 65, 3) := by decide +kernel
theorem dX8_put_29 : decode cX8_put 29 = .ok (.iload_n 1, 1) := by decide +kernel
theorem dX8_put_30 : decode cX8_put 30 = .ok (.aaload, 1) := by decide +kernel
theorem dX8_put_31 : decode cX8_put 31 = .ok (.iload_n 2, 1) := by decide +kernel
theorem dX8_put_32 : decode cX8_put 32 = .ok (.invokevirtual 282, 3) := by decide +kernel
theorem dX8_put_35 : decode cX8_put 35 = .ok (.ifCond .ne 6, 3) := by decide +kernel
theorem dX8_put_38 : decode cX8_put 38 = .ok (.bipush (-12), 2) := by decide +kernel
theorem dX8_put_40 : decode cX8_put 40 = .ok (.ireturn, 1) := by decide +kernel
theorem dX8_put_41 : decode cX8_put 41 = .ok (.aload_n 0, 1) := by decide +kernel
theorem dX8_put_42 : decode cX8_put 42 = .ok (.getfield 65, 3) := by decide +kernel
theorem dX8_put_45 : decode cX8_put 45 = .ok (.iload_n 1, 1) := by decide +kernel
theorem dX8_put_46 : decode cX8_put 46 = .ok (.aaload, 1) := by decide +kernel
theorem dX8_put_47 : decode cX8_put 47 = .ok (.iload_n 2, 1) := by decide +kernel
theorem dX8_put_48 : decode cX8_put 48 = .ok (.iload_n 3, 1) := by decide +kernel
theorem dX8_put_49 : decode cX8_put 49 = .ok (.invokevirtual 283, 3) := by decide +kernel
theorem dX8_put_52 : decode cX8_put 52 = .ok (.iconst 1, 1) := by decide +kernel
theorem dX8_put_53 : decode cX8_put 53 = .ok (.ireturn, 1) := by decide +kernel
theorem dX8_item_0 : decode cX8_item 0 = .ok (.iload_n 1, 1) := by decide +kernel
theorem dX8_item_1 : decode cX8_item 1 = .ok (.invokestatic 129, 3) := by decide +kernel
theorem dX8_item_4 : decode cX8_item 4 = .ok (.ifCond .eq 10, 3) := by decide +kernel
theorem dX8_item_7 : decode cX8_item 7 = .ok (.iload_n 2, 1) := by decide +kernel
theorem dX8_item_8 : decode cX8_item 8 = .ok (.invokestatic 285, 3) := by decide +kernel
theorem dX8_item_11 : decode cX8_item 11 = .ok (.ifCond .ne 5, 3) := by decide +kernel
theorem dX8_item_14 : decode cX8_item 14 = .ok (.iconst (-1), 1) := by decide +kernel
theorem dX8_item_15 : decode cX8_item 15 = .ok (.ireturn, 1) := by decide +kernel
theorem dX8_item_16 : decode cX8_item 16 = .ok (.aload_n 0, 1) := by decide +kernel
theorem dX8_item_17 : decode cX8_item 17 = .ok (.getfield 65, 3) := by decide +kernel
theorem dX8_item_20 : decode cX8_item 20 = .ok (.iload_n 1, 1) := by decide +kernel
theorem dX8_item_21 : decode cX8_item 21 = .ok (.aaload, 1) := by decide +kernel
theorem dX8_item_22 : decode cX8_item 22 = .ok (.iload_n 2, 1) := by decide +kernel
theorem dX8_item_23 : decode cX8_item 23 = .ok (.invokevirtual 132, 3) := by decide +kernel
theorem dX8_item_26 : decode cX8_item 26 = .ok (.istore 4, 2) := by decide +kernel
theorem dX8_item_28 : decode cX8_item 28 = .ok (.iload 4, 2) := by decide +kernel
theorem dX8_item_30 : decode cX8_item 30 = .ok (.ifCond .eq 6, 3) := by decide +kernel
theorem dX8_item_33 : decode cX8_item 33 = .ok (.iload 4, 2) := by decide +kernel
theorem dX8_item_35 : decode cX8_item 35 = .ok (.ireturn, 1) := by decide +kernel
theorem dX8_item_36 : decode cX8_item 36 = .ok (.aload_n 0, 1) := by decide +kernel
theorem dX8_item_37 : decode cX8_item 37 = .ok (.getfield 65, 3) := by decide +kernel
theorem dX8_item_40 : decode cX8_item 40 = .ok (.iload_n 1, 1) := by decide +kernel
theorem dX8_item_41 : decode cX8_item 41 = .ok (.aaload, 1) := by decide +kernel
theorem dX8_item_42 : decode cX8_item 42 = .ok (.iload_n 3, 1) := by decide +kernel
theorem dX8_item_43 : decode cX8_item 43 = .ok (.invokevirtual 282, 3) := by decide +kernel
theorem dX8_item_46 : decode cX8_item 46 = .ok (.ifCond .ne 6, 3) := by decide +kernel
theorem dX8_item_49 : decode cX8_item 49 = .ok (.bipush (-12), 2) := by decide +kernel
theorem dX8_item_51 : decode cX8_item 51 = .ok (.ireturn, 1) := by decide +kernel
theorem dX8_item_52 : decode cX8_item 52 = .ok (.aload_n 0, 1) := by decide +kernel
theorem dX8_item_53 : decode cX8_item 53 = .ok (.getfield 65, 3) := by decide +kernel
theorem dX8_item_56 : decode cX8_item 56 = .ok (.iload_n 1, 1) := by decide +kernel
theorem dX8_item_57 : decode cX8_item 57 = .ok (.aaload, 1) := by decide +kernel
theorem dX8_item_58 : decode cX8_item 58 = .ok (.iload_n 3, 1) := by decide +kernel
theorem dX8_item_59 : decode cX8_item 59 = .ok (.invokevirtual 142, 3) := by decide +kernel
theorem dX8_item_62 : decode cX8_item 62 = .ok (.ireturn, 1) := by decide +kernel
theorem dX8_register_0 : decode cX8_register 0 = .ok (.iload_n 2, 1) := by decide +kernel
theorem dX8_register_1 : decode cX8_register 1 = .ok (.invokestatic 129, 3) := by decide +kernel
theorem dX8_register_4 : decode cX8_register 4 = .ok (.ifCond .eq 28, 3) := by decide +kernel
theorem dX8_register_7 : decode cX8_register 7 = .ok (.aload_n 0, 1) := by decide +kernel
theorem dX8_register_8 : decode cX8_register 8 = .ok (.getfield 10, 3) := by decide +kernel
theorem dX8_register_11 : decode cX8_register 11 = .ok (.getfield 95, 3) := by decide +kernel
theorem dX8_register_14 : decode cX8_register 14 = .ok (.iload_n 1, 1) := by decide +kernel
theorem dX8_register_15 : decode cX8_register 15 = .ok (.invokevirtual 102, 3) := by decide +kernel
theorem dX8_register_18 : decode cX8_register 18 = .ok (.ifCond .eq 14, 3) := by decide +kernel
theorem dX8_register_21 : decode cX8_register 21 = .ok (.iload 4, 2) := by decide +kernel
theorem dX8_register_23 : decode cX8_register 23 = .ok (.iconst 0, 1) := by decide +kernel
theorem dX8_register_24 : decode cX8_register 24 = .ok (.bipush 10, 2) := by decide +kernel
theorem dX8_register_26 : decode cX8_register 26 = .ok (.invokestatic 91, 3) := by decide +kernel
theorem dX8_register_29 : decode cX8_register 29 = .ok (.ifCond .ne 5, 3) := by decide +kernel
theorem dX8_register_32 : decode cX8_register 32 = .ok (.iconst (-1), 1) := by decide +kernel
theorem dX8_register_33 : decode cX8_register 33 = .ok (.ireturn, 1) := by decide +kernel
theorem dX8_register_34 : decode cX8_register 34 = .ok (.aload_n 0, 1) := by decide +kernel
theorem dX8_register_35 : decode cX8_register 35 = .ok (.getfield 65, 3) := by decide +kernel
theorem dX8_register_38 : decode cX8_register 38 = .ok (.iload_n 2, 1) := by decide +kernel
theorem dX8_register_39 : decode cX8_register 39 = .ok (.aaload, 1) := by decide +kernel
theorem dX8_register_40 : decode cX8_register 40 = .ok (.astore 5, 2) := by decide +kernel
theorem dX8_register_42 : decode cX8_register 42 = .ok (.aload 5, 2) := by decide +kernel
theorem dX8_register_44 : decode cX8_register 44 = .ok (.iconst 0, 1) := by decide +kernel
theorem dX8_register_45 : decode cX8_register 45 = .ok (.invokevirtual 132, 3) := by decide +kernel
theorem dX8_register_48 : decode cX8_register 48 = .ok (.istore 6, 2) := by decide +kernel
theorem dX8_register_50 : decode cX8_register 50 = .ok (.iload 6, 2) := by decide +kernel
theorem dX8_register_52 : decode cX8_register 52 = .ok (.ifCond .eq 6, 3) := by decide +kernel
theorem dX8_register_55 : decode cX8_register 55 = .ok (.iload 6, 2) := by decide +kernel
theorem dX8_register_57 : decode cX8_register 57 = .ok (.ireturn, 1) := by decide +kernel
theorem dX8_register_58 : decode cX8_register 58 = .ok (.iconst 0, 1) := by decide +kernel
theorem dX8_register_59 : decode cX8_register 59 = .ok (.istore 7, 2) := by decide +kernel
theorem dX8_register_61 : decode cX8_register 61 = .ok (.iload_n 3, 1) := by decide +kernel
theorem dX8_register_62 : decode cX8_register 62 = .ok (.istore 8, 2) := by decide +kernel
theorem dX8_register_64 : decode cX8_register 64 = .ok (.iconst 0, 1) := by decide +kernel
theorem dX8_register_65 : decode cX8_register 65 = .ok (.istore 9, 2) := by decide +kernel
theorem dX8_register_67 : decode cX8_register 67 = .ok (.iload 9, 2) := by decide +kernel
theorem dX8_register_69 : decode cX8_register 69 = .ok (.iload 4, 2) := by decide +kernel
theorem dX8_register_71 : decode cX8_register 71 = .ok (.if_icmp .ge 68, 3) := by decide +kernel
theorem dX8_register_74 : decode cX8_register 74 = .ok (.aload 5, 2) := by decide +kernel
theorem dX8_register_76 : decode cX8_register 76 = .ok (.iload 8, 2) := by decide +kernel
theorem dX8_register_78 : decode cX8_register 78 = .ok (.invokevirtual 282, 3) := by decide +kernel
theorem dX8_register_81 : decode cX8_register 81 = .ok (.ifCond .eq 15, 3) := by decide +kernel
theorem dX8_register_84 : decode cX8_register 84 = .ok (.aload 5, 2) := by decide +kernel
theorem dX8_register_86 : decode cX8_register 86 = .ok (.iload 8, 2) := by decide +kernel
theorem dX8_register_88 : decode cX8_register 88 = .ok (.iconst 1, 1) := by decide +kernel
theorem dX8_register_89 : decode cX8_register 89 = .ok (.iadd, 1) := by decide +kernel
theorem dX8_register_90 : decode cX8_register 90 = .ok (.invokevirtual 282, 3) := by decide +kernel
theorem dX8_register_93 : decode cX8_register 93 = .ok (.ifCond .ne 6, 3) := by decide +kernel
theorem dX8_register_96 : decode cX8_register 96 = .ok (.bipush (-12), 2) := by decide +kernel
theorem dX8_register_98 : decode cX8_register 98 = .ok (.ireturn, 1) := by decide +kernel
theorem dX8_register_99 : decode cX8_register 99 = .ok (.aload_n 0, 1) := by decide +kernel
theorem dX8_register_100 : decode cX8_register 100 = .ok (.iload_n 1, 1) := by decide +kernel
theorem dX8_register_101 : decode cX8_register 101 = .ok (.iconst 3, 1) := by decide +kernel
theorem dX8_register_102 : decode cX8_register 102 = .ok (.aload 5, 2) := by decide +kernel
theorem dX8_register_104 : decode cX8_register 104 = .ok (.iload 8, 2) := by decide +kernel
theorem dX8_register_106 : decode cX8_register 106 = .ok (.invokevirtual 142, 3) := by decide +kernel
theorem dX8_register_109 : decode cX8_register 109 = .ok (.aload 5, 2) := by decide +kernel
theorem dX8_register_111 : decode cX8_register 111 = .ok (.iload 8, 2) := by decide +kernel
theorem dX8_register_113 : decode cX8_register 113 = .ok (.iconst 1, 1) := by decide +kernel
theorem dX8_register_114 : decode cX8_register 114 = .ok (.iadd, 1) := by decide +kernel
theorem dX8_register_115 : decode cX8_register 115 = .ok (.invokevirtual 142, 3) := by decide +kernel
theorem dX8_register_118 : decode cX8_register 118 = .ok (.bipush 10, 2) := by decide +kernel
theorem dX8_register_120 : decode cX8_register 120 = .ok (.iconst 0, 1) := by decide +kernel
theorem dX8_register_121 : decode cX8_register 121 = .ok (.invokevirtual 288, 3) := by decide +kernel
theorem dX8_register_124 : decode cX8_register 124 = .ok (.ifCond .lt 6, 3) := by decide +kernel
theorem dX8_register_127 : decode cX8_register 127 = .ok (.iinc 7 1, 3) := by decide +kernel
theorem dX8_register_130 : decode cX8_register 130 = .ok (.iinc 8 2, 3) := by decide +kernel
theorem dX8_register_133 : decode cX8_register 133 = .ok (.iinc 9 1, 3) := by decide +kernel
theorem dX8_register_136 : decode cX8_register 136 = .ok (.goto (-69), 3) := by decide +kernel
theorem dX8_register_139 : decode cX8_register 139 = .ok (.iload 7, 2) := by decide +kernel
theorem dX8_register_141 : decode cX8_register 141 = .ok (.ireturn, 1) := by decide +kernel
theorem dX8_shelf_0 : decode cX8_shelf 0 = .ok (.aload_n 0, 1) := by decide +kernel
theorem dX8_shelf_1 : decode cX8_shelf 1 = .ok (.getfield 69, 3) := by decide +kernel
theorem dX8_shelf_4 : decode cX8_shelf 4 = .ok (.iload_n 1, 1) := by decide +kernel
theorem dX8_shelf_5 : decode cX8_shelf 5 = .ok (.invokevirtual 102, 3) := by decide +kernel
theorem dX8_shelf_8 : decode cX8_shelf 8 = .ok (.ifCond .ne 5, 3) := by decide +kernel
theorem dX8_shelf_11 : decode cX8_shelf 11 = .ok (.iconst (-1), 1) := by decide +kernel
theorem dX8_shelf_12 : decode cX8_shelf 12 = .ok (.ireturn, 1) := by decide +kernel
theorem dX8_shelf_13 : decode cX8_shelf 13 = .ok (.iload_n 2, 1) := by decide +kernel
theorem dX8_shelf_14 : decode cX8_shelf 14 = .ok (.tableswitch 108 0 3 #[30, 56, 82, 100], 30) := by decide +kernel
theorem dX8_shelf_44 : decode cX8_shelf 44 = .ok (.aload_n 0, 1) := by decide +kernel
theorem dX8_shelf_45 : decode cX8_shelf 45 = .ok (.getfield 10, 3) := by decide +kernel
theorem dX8_shelf_48 : decode cX8_shelf 48 = .ok (.getfield 122, 3) := by decide +kernel
theorem dX8_shelf_51 : decode cX8_shelf 51 = .ok (.iload_n 3, 1) := by decide +kernel
theorem dX8_shelf_52 : decode cX8_shelf 52 = .ok (.invokevirtual 102, 3) := by decide +kernel
theorem dX8_shelf_55 : decode cX8_shelf 55 = .ok (.ifCond .eq 13, 3) := by decide +kernel
theorem dX8_shelf_58 : decode cX8_shelf 58 = .ok (.aload_n 0, 1) := by decide +kernel
theorem dX8_shelf_59 : decode cX8_shelf 59 = .ok (.iload_n 1, 1) := by decide +kernel
theorem dX8_shelf_60 : decode cX8_shelf 60 = .ok (.iload_n 2, 1) := by decide +kernel
theorem dX8_shelf_61 : decode cX8_shelf 61 = .ok (.iload_n 3, 1) := by decide +kernel
theorem dX8_shelf_62 : decode cX8_shelf 62 = .ok (.invokevirtual 292, 3) := by decide +kernel
theorem dX8_shelf_65 : decode cX8_shelf 65 = .ok (.goto 4, 3) := by decide +kernel
theorem dX8_shelf_68 : decode cX8_shelf 68 = .ok (.iconst (-1), 1) := by decide +kernel
theorem dX8_shelf_69 : decode cX8_shelf 69 = .ok (.ireturn, 1) := by decide +kernel
theorem dX8_shelf_70 : decode cX8_shelf 70 = .ok (.aload_n 0, 1) := by decide +kernel
theorem dX8_shelf_71 : decode cX8_shelf 71 = .ok (.getfield 10, 3) := by decide +kernel
theorem dX8_shelf_74 : decode cX8_shelf 74 = .ok (.getfield 95, 3) := by decide +kernel
theorem dX8_shelf_77 : decode cX8_shelf 77 = .ok (.iload_n 3, 1) := by decide +kernel
theorem dX8_shelf_78 : decode cX8_shelf 78 = .ok (.invokevirtual 102, 3) := by decide +kernel
theorem dX8_shelf_81 : decode cX8_shelf 81 = .ok (.ifCond .eq 13, 3) := by decide +kernel
theorem dX8_shelf_84 : decode cX8_shelf 84 = .ok (.aload_n 0, 1) := by decide +kernel
theorem dX8_shelf_85 : decode cX8_shelf 85 = .ok (.iload_n 1, 1) := by decide +kernel
theorem dX8_shelf_86 : decode cX8_shelf 86 = .ok (.iload_n 2, 1) := by decide +kernel
theorem dX8_shelf_87 : decode cX8_shelf 87 = .ok (.iload_n 3, 1) := by decide +kernel
theorem dX8_shelf_88 : decode cX8_shelf 88 = .ok (.invokevirtual 292, 3) := by decide +kernel
theorem dX8_shelf_91 : decode cX8_shelf 91 = .ok (.goto 4, 3) := by decide +kernel
theorem dX8_shelf_94 : decode cX8_shelf 94 = .ok (.iconst (-1), 1) := by decide +kernel
theorem dX8_shelf_95 : decode cX8_shelf 95 = .ok (.ireturn, 1) := by decide +kernel
theorem dX8_shelf_96 : decode cX8_shelf 96 = .ok (.iload_n 3, 1) := by decide +kernel
theorem dX8_shelf_97 : decode cX8_shelf 97 = .ok (.invokestatic 129, 3) := by decide +kernel
theorem dX8_shelf_100 : decode cX8_shelf 100 = .ok (.ifCond .eq 12, 3) := by decide +kernel
theorem dX8_shelf_103 : decode cX8_shelf 103 = .ok (.aload_n 0, 1) := by decide +kernel
theorem dX8_shelf_104 : decode cX8_shelf 104 = .ok (.iload_n 1, 1) := by decide +kernel
theorem dX8_shelf_105 : decode cX8_shelf 105 = .ok (.iload_n 3, 1) := by decide +kernel
theorem dX8_shelf_106 : decode cX8_shelf 106 = .ok (.invokevirtual 296, 3) := by decide +kernel
theorem dX8_shelf_109 : decode cX8_shelf 109 = .ok (.goto 4, 3) := by decide +kernel
theorem dX8_shelf_112 : decode cX8_shelf 112 = .ok (.iconst (-1), 1) := by decide +kernel
theorem dX8_shelf_113 : decode cX8_shelf 113 = .ok (.ireturn, 1) := by decide +kernel
theorem dX8_shelf_114 : decode cX8_shelf 114 = .ok (.aload_n 0, 1) := by decide +kernel
theorem dX8_shelf_115 : decode cX8_shelf 115 = .ok (.iload_n 1, 1) := by decide +kernel
theorem dX8_shelf_116 : decode cX8_shelf 116 = .ok (.iload_n 2, 1) := by decide +kernel
theorem dX8_shelf_117 : decode cX8_shelf 117 = .ok (.iconst 0, 1) := by decide +kernel
theorem dX8_shelf_118 : decode cX8_shelf 118 = .ok (.invokevirtual 292, 3) := by decide +kernel
theorem dX8_shelf_121 : decode cX8_shelf 121 = .ok (.ireturn, 1) := by decide +kernel
theorem dX8_shelf_122 : decode cX8_shelf 122 = .ok (.iconst (-1), 1) := by decide +kernel
theorem dX8_shelf_123 : decode cX8_shelf 123 = .ok (.ireturn, 1) := by decide +kernel
theorem dX8_shelve_0 : decode cX8_shelve 0 = .ok (.aload_n 0, 1) := by decide +kernel
theorem dX8_shelve_1 : decode cX8_shelve 1 = .ok (.getfield 69, 3) := by decide +kernel
theorem dX8_shelve_4 : decode cX8_shelve 4 = .ok (.iload_n 1, 1) := by decide +kernel
theorem dX8_shelve_5 : decode cX8_shelve 5 = .ok (.iconst 0, 1) := by decide +kernel
theorem dX8_shelve_6 : decode cX8_shelve 6 = .ok (.iload_n 2, 1) := by decide +kernel
theorem dX8_shelve_7 : decode cX8_shelve 7 = .ok (.invokevirtual 83, 3) := by decide +kernel
theorem dX8_shelve_10 : decode cX8_shelve 10 = .ok (.aload_n 0, 1) := by decide +kernel
theorem dX8_shelve_11 : decode cX8_shelve 11 = .ok (.getfield 69, 3) := by decide +kernel
theorem dX8_shelve_14 : decode cX8_shelve 14 = .ok (.iload_n 1, 1) := by decide +kernel
theorem dX8_shelve_15 : decode cX8_shelve 15 = .ok (.iconst 1, 1) := by decide +kernel
theorem dX8_shelve_16 : decode cX8_shelve 16 = .ok (.iload_n 3, 1) := by decide +kernel
theorem dX8_shelve_17 : decode cX8_shelve 17 = .ok (.invokevirtual 83, 3) := by decide +kernel
theorem dX8_shelve_20 : decode cX8_shelve 20 = .ok (.iconst 1, 1) := by decide +kernel
theorem dX8_shelve_21 : decode cX8_shelve 21 = .ok (.ireturn, 1) := by decide +kernel
theorem dX8_shelveRow_0 : decode cX8_shelveRow 0 = .ok (.iload_n 2, 1) := by decide +kernel
theorem dX8_shelveRow_1 : decode cX8_shelveRow 1 = .ok (.invokestatic 129, 3) := by decide +kernel
theorem dX8_shelveRow_4 : decode cX8_shelveRow 4 = .ok (.ifCond .ne 5, 3) := by decide +kernel
theorem dX8_shelveRow_7 : decode cX8_shelveRow 7 = .ok (.iconst (-1), 1) := by decide +kernel
theorem dX8_shelveRow_8 : decode cX8_shelveRow 8 = .ok (.ireturn, 1) := by decide +kernel
theorem dX8_shelveRow_9 : decode cX8_shelveRow 9 = .ok (.aload_n 0, 1) := by decide +kernel
theorem dX8_shelveRow_10 : decode cX8_shelveRow 10 = .ok (.getfield 65, 3) := by decide +kernel
theorem dX8_shelveRow_13 : decode cX8_shelveRow 13 = .ok (.iload_n 2, 1) := by decide +kernel
theorem dX8_shelveRow_14 : decode cX8_shelveRow 14 = .ok (.aaload, 1) := by decide +kernel
theorem dX8_shelveRow_15 : decode cX8_shelveRow 15 = .ok (.getfield 279, 3) := by decide +kernel
theorem dX8_shelveRow_18 : decode cX8_shelveRow 18 = .ok (.iconst (-1), 1) := by decide +kernel
theorem dX8_shelveRow_19 : decode cX8_shelveRow 19 = .ok (.if_icmp .ne 7, 3) := by decide +kernel
theorem dX8_shelveRow_22 : decode cX8_shelveRow 22 = .ok (.iconst 1, 1) := by decide +kernel
theorem dX8_shelveRow_23 : decode cX8_shelveRow 23 = .ok (.goto 4, 3) := by decide +kernel
theorem dX8_shelveRow_26 : decode cX8_shelveRow 26 = .ok (.iconst 0, 1) := by decide +kernel
theorem dX8_shelveRow_27 : decode cX8_shelveRow 27 = .ok (.istore_n 3, 1) := by decide +kernel
theorem dX8_shelveRow_28 : decode cX8_shelveRow 28 = .ok (.aload_n 0, 1) := by decide +kernel
theorem dX8_shelveRow_29 : decode cX8_shelveRow 29 = .ok (.getfield 69, 3) := by decide +kernel
theorem dX8_shelveRow_32 : decode cX8_shelveRow 32 = .ok (.iload_n 1, 1) := by decide +kernel
theorem dX8_shelveRow_33 : decode cX8_shelveRow 33 = .ok (.iconst 2, 1) := by decide +kernel
theorem dX8_shelveRow_34 : decode cX8_shelveRow 34 = .ok (.aload_n 0, 1) := by decide +kernel
theorem dX8_shelveRow_35 : decode cX8_shelveRow 35 = .ok (.getfield 65, 3) := by decide +kernel
theorem dX8_shelveRow_38 : decode cX8_shelveRow 38 = .ok (.iload_n 2, 1) := by decide +kernel
theorem dX8_shelveRow_39 : decode cX8_shelveRow 39 = .ok (.aaload, 1) := by decide +kernel
theorem dX8_shelveRow_40 : decode cX8_shelveRow 40 = .ok (.getfield 279, 3) := by decide +kernel
theorem dX8_shelveRow_43 : decode cX8_shelveRow 43 = .ok (.invokevirtual 83, 3) := by decide +kernel
theorem dX8_shelveRow_46 : decode cX8_shelveRow 46 = .ok (.aload_n 0, 1) := by decide +kernel
theorem dX8_shelveRow_47 : decode cX8_shelveRow 47 = .ok (.getfield 69, 3) := by decide +kernel
theorem dX8_shelveRow_50 : decode cX8_shelveRow 50 = .ok (.iload_n 1, 1) := by decide +kernel
theorem dX8_shelveRow_51 : decode cX8_shelveRow 51 = .ok (.iconst 3, 1) := by decide +kernel
theorem dX8_shelveRow_52 : decode cX8_shelveRow 52 = .ok (.aload_n 0, 1) := by decide +kernel
theorem dX8_shelveRow_53 : decode cX8_shelveRow 53 = .ok (.getfield 65, 3) := by decide +kernel
theorem dX8_shelveRow_56 : decode cX8_shelveRow 56 = .ok (.iload_n 2, 1) := by decide +kernel
theorem dX8_shelveRow_57 : decode cX8_shelveRow 57 = .ok (.aaload, 1) := by decide +kernel
theorem dX8_shelveRow_58 : decode cX8_shelveRow 58 = .ok (.getfield 144, 3) := by decide +kernel
theorem dX8_shelveRow_61 : decode cX8_shelveRow 61 = .ok (.invokevirtual 83, 3) := by decide +kernel
theorem dX8_shelveRow_64 : decode cX8_shelveRow 64 = .ok (.aload_n 0, 1) := by decide +kernel
theorem dX8_shelveRow_65 : decode cX8_shelveRow 65 = .ok (.iload_n 1, 1) := by decide +kernel
theorem dX8_shelveRow_66 : decode cX8_shelveRow 66 = .ok (.iload_n 3, 1) := by decide +kernel
theorem dX8_shelveRow_67 : decode cX8_shelveRow 67 = .ok (.ifCond .eq 7, 3) := by decide +kernel
theorem dX8_shelveRow_70 : decode cX8_shelveRow 70 = .ok (.iconst 3, 1) := by decide +kernel
theorem dX8_shelveRow_71 : decode cX8_shelveRow 71 = .ok (.goto 4, 3) := by decide +kernel
theorem dX8_shelveRow_74 : decode cX8_shelveRow 74 = .ok (.iconst 2, 1) := by decide +kernel
theorem dX8_shelveRow_75 : decode cX8_shelveRow 75 = .ok (.iload_n 2, 1) := by decide +kernel
theorem dX8_shelveRow_76 : decode cX8_shelveRow 76 = .ok (.invokevirtual 292, 3) := by decide +kernel
theorem dX8_shelveRow_79 : decode cX8_shelveRow 79 = .ok (.ireturn, 1) := by decide +kernel
theorem dX8_taken_0 : decode cX8_taken 0 = .ok (.iload_n 2, 1) := by decide +kernel
theorem dX8_taken_1 : decode cX8_taken 1 = .ok (.bipush 10, 2) := by decide +kernel
theorem dX8_taken_3 : decode cX8_taken 3 = .ok (.isub, 1) := by decide +kernel
theorem dX8_taken_4 : decode cX8_taken 4 = .ok (.invokestatic 285, 3) := by decide +kernel
theorem dX8_taken_7 : decode cX8_taken 7 = .ok (.istore_n 3, 1) := by decide +kernel
theorem dX8_taken_8 : decode cX8_taken 8 = .ok (.aload_n 0, 1) := by decide +kernel
theorem dX8_taken_9 : decode cX8_taken 9 = .ok (.getfield 69, 3) := by decide +kernel
theorem dX8_taken_12 : decode cX8_taken 12 = .ok (.iload_n 1, 1) := by decide +kernel
theorem dX8_taken_13 : decode cX8_taken 13 = .ok (.invokevirtual 102, 3) := by decide +kernel
theorem dX8_taken_16 : decode cX8_taken 16 = .ok (.ifCond .eq 17, 3) := by decide +kernel
theorem dX8_taken_19 : decode cX8_taken 19 = .ok (.iload_n 3, 1) := by decide +kernel
theorem dX8_taken_20 : decode cX8_taken 20 = .ok (.ifCond .ne 15, 3) := by decide +kernel
theorem dX8_taken_23 : decode cX8_taken 23 = .ok (.iload_n 2, 1) := by decide +kernel
theorem dX8_taken_24 : decode cX8_taken 24 = .ok (.iconst 0, 1) := by decide +kernel
theorem dX8_taken_25 : decode cX8_taken 25 = .ok (.bipush 8, 2) := by decide +kernel
theorem dX8_taken_27 : decode cX8_taken 27 = .ok (.invokestatic 91, 3) := by decide +kernel
theorem dX8_taken_30 : decode cX8_taken 30 = .ok (.ifCond .ne 5, 3) := by decide +kernel
theorem dX8_taken_33 : decode cX8_taken 33 = .ok (.iconst (-1), 1) := by decide +kernel
theorem dX8_taken_34 : decode cX8_taken 34 = .ok (.ireturn, 1) := by decide +kernel
theorem dX8_taken_35 : decode cX8_taken 35 = .ok (.aload_n 0, 1) := by decide +kernel
theorem dX8_taken_36 : decode cX8_taken 36 = .ok (.iload_n 1, 1) := by decide +kernel
theorem dX8_taken_37 : decode cX8_taken 37 = .ok (.invokevirtual 299, 3) := by decide +kernel
theorem dX8_taken_40 : decode cX8_taken 40 = .ok (.istore 4, 2) := by decide +kernel
theorem dX8_taken_42 : decode cX8_taken 42 = .ok (.iload 4, 2) := by decide +kernel
theorem dX8_taken_44 : decode cX8_taken 44 = .ok (.iconst 3, 1) := by decide +kernel
theorem dX8_taken_45 : decode cX8_taken 45 = .ok (.if_icmp .ne 6, 3) := by decide +kernel
theorem dX8_taken_48 : decode cX8_taken 48 = .ok (.bipush (-11), 2) := by decide +kernel
theorem dX8_taken_50 : decode cX8_taken 50 = .ok (.ireturn, 1) := by decide +kernel
theorem dX8_taken_51 : decode cX8_taken 51 = .ok (.iload_n 3, 1) := by decide +kernel
theorem dX8_taken_52 : decode cX8_taken 52 = .ok (.iload 4, 2) := by decide +kernel
theorem dX8_taken_54 : decode cX8_taken 54 = .ok (.iconst 2, 1) := by decide +kernel
theorem dX8_taken_55 : decode cX8_taken 55 = .ok (.if_icmp .ne 7, 3) := by decide +kernel
theorem dX8_taken_58 : decode cX8_taken 58 = .ok (.iconst 1, 1) := by decide +kernel
theorem dX8_taken_59 : decode cX8_taken 59 = .ok (.goto 4, 3) := by decide +kernel
theorem dX8_taken_62 : decode cX8_taken 62 = .ok (.iconst 0, 1) := by decide +kernel
theorem dX8_taken_63 : decode cX8_taken 63 = .ok (.if_icmp .eq 6, 3) := by decide +kernel
theorem dX8_taken_66 : decode cX8_taken 66 = .ok (.bipush (-13), 2) := by decide +kernel
theorem dX8_taken_68 : decode cX8_taken 68 = .ok (.ireturn, 1) := by decide +kernel
theorem dX8_taken_69 : decode cX8_taken 69 = .ok (.iload_n 3, 1) := by decide +kernel
theorem dX8_taken_70 : decode cX8_taken 70 = .ok (.ifCond .eq 34, 3) := by decide +kernel
theorem dX8_taken_73 : decode cX8_taken 73 = .ok (.aload_n 0, 1) := by decide +kernel
theorem dX8_taken_74 : decode cX8_taken 74 = .ok (.getfield 69, 3) := by decide +kernel
theorem dX8_taken_77 : decode cX8_taken 77 = .ok (.iload_n 1, 1) := by decide +kernel
theorem dX8_taken_78 : decode cX8_taken 78 = .ok (.iconst 2, 1) := by decide +kernel
theorem dX8_taken_79 : decode cX8_taken 79 = .ok (.invokevirtual 105, 3) := by decide +kernel
theorem dX8_taken_82 : decode cX8_taken 82 = .ok (.iload_n 2, 1) := by decide +kernel
theorem dX8_taken_83 : decode cX8_taken 83 = .ok (.bipush 10, 2) := by decide +kernel
theorem dX8_taken_85 : decode cX8_taken 85 = .ok (.isub, 1) := by decide +kernel
theorem dX8_taken_86 : decode cX8_taken 86 = .ok (.if_icmp .ne 15, 3) := by decide +kernel
theorem dX8_taken_89 : decode cX8_taken 89 = .ok (.aload_n 0, 1) := by decide +kernel
theorem dX8_taken_90 : decode cX8_taken 90 = .ok (.getfield 69, 3) := by decide +kernel
theorem dX8_taken_93 : decode cX8_taken 93 = .ok (.iload_n 1, 1) := by decide +kernel
theorem dX8_taken_94 : decode cX8_taken 94 = .ok (.iconst 3, 1) := by decide +kernel
theorem dX8_taken_95 : decode cX8_taken 95 = .ok (.invokevirtual 105, 3) := by decide +kernel
theorem dX8_taken_98 : decode cX8_taken 98 = .ok (.goto 5, 3) := by decide +kernel
theorem dX8_taken_101 : decode cX8_taken 101 = .ok (.bipush (-13), 2) := by decide +kernel
theorem dX8_taken_103 : decode cX8_taken 103 = .ok (.ireturn, 1) := by decide +kernel
theorem dX8_taken_104 : decode cX8_taken 104 = .ok (.aload_n 0, 1) := by decide +kernel
theorem dX8_taken_105 : decode cX8_taken 105 = .ok (.iload_n 1, 1) := by decide +kernel
theorem dX8_taken_106 : decode cX8_taken 106 = .ok (.invokevirtual 302, 3) := by decide +kernel
theorem dX8_taken_109 : decode cX8_taken 109 = .ok (.iload_n 2, 1) := by decide +kernel
theorem dX8_taken_110 : decode cX8_taken 110 = .ok (.invokestatic 305, 3) := by decide +kernel
theorem dX8_taken_113 : decode cX8_taken 113 = .ok (.ifCond .eq 15, 3) := by decide +kernel
theorem dX8_taken_116 : decode cX8_taken 116 = .ok (.aload_n 0, 1) := by decide +kernel
theorem dX8_taken_117 : decode cX8_taken 117 = .ok (.getfield 69, 3) := by decide +kernel
theorem dX8_taken_120 : decode cX8_taken 120 = .ok (.iload_n 1, 1) := by decide +kernel
theorem dX8_taken_121 : decode cX8_taken 121 = .ok (.iconst 1, 1) := by decide +kernel
theorem dX8_taken_122 : decode cX8_taken 122 = .ok (.invokevirtual 105, 3) := by decide +kernel
theorem dX8_taken_125 : decode cX8_taken 125 = .ok (.goto 5, 3) := by decide +kernel
theorem dX8_taken_128 : decode cX8_taken 128 = .ok (.bipush (-13), 2) := by decide +kernel
theorem dX8_taken_130 : decode cX8_taken 130 = .ok (.ireturn, 1) := by decide +kernel
theorem dX8_act_0 : decode cX8_act 0 = .ok (.aload_n 0, 1) := by decide +kernel
theorem dX8_act_1 : decode cX8_act 1 = .ok (.getfield 75, 3) := by decide +kernel
theorem dX8_act_4 : decode cX8_act 4 = .ok (.getfield 308, 3) := by decide +kernel
theorem dX8_act_7 : decode cX8_act 7 = .ok (.invokevirtual 213, 3) := by decide +kernel
theorem dX8_act_10 : decode cX8_act 10 = .ok (.aload_n 0, 1) := by decide +kernel
theorem dX8_act_11 : decode cX8_act 11 = .ok (.iload_n 1, 1) := by decide +kernel
theorem dX8_act_12 : decode cX8_act 12 = .ok (.invokevirtual 299, 3) := by decide +kernel
theorem dX8_act_15 : decode cX8_act 15 = .ok (.istore 4, 2) := by decide +kernel
theorem dX8_act_17 : decode cX8_act 17 = .ok (.iload 4, 2) := by decide +kernel
theorem dX8_act_19 : decode cX8_act 19 = .ok (.iconst 3, 1) := by decide +kernel
theorem dX8_act_20 : decode cX8_act 20 = .ok (.if_icmp .eq 9, 3) := by decide +kernel
theorem dX8_act_23 : decode cX8_act 23 = .ok (.iload 4, 2) := by decide +kernel
theorem dX8_act_25 : decode cX8_act 25 = .ok (.iconst 2, 1) := by decide +kernel
theorem dX8_act_26 : decode cX8_act 26 = .ok (.if_icmp .ne 5, 3) := by decide +kernel
theorem dX8_act_29 : decode cX8_act 29 = .ok (.iconst 0, 1) := by decide +kernel
theorem dX8_act_30 : decode cX8_act 30 = .ok (.ireturn, 1) := by decide +kernel
theorem dX8_act_31 : decode cX8_act 31 = .ok (.aload_n 0, 1) := by decide +kernel
theorem dX8_act_32 : decode cX8_act 32 = .ok (.getfield 75, 3) := by decide +kernel
theorem dX8_act_35 : decode cX8_act 35 = .ok (.aload_n 0, 1) := by decide +kernel
theorem dX8_act_36 : decode cX8_act 36 = .ok (.iload_n 1, 1) := by decide +kernel
theorem dX8_act_37 : decode cX8_act 37 = .ok (.invokevirtual 302, 3) := by decide +kernel
theorem dX8_act_40 : decode cX8_act 40 = .ok (.putfield 311, 3) := by decide +kernel
theorem dX8_act_43 : decode cX8_act 43 = .ok (.aload_n 0, 1) := by decide +kernel
theorem dX8_act_44 : decode cX8_act 44 = .ok (.getfield 75, 3) := by decide +kernel
theorem dX8_act_47 : decode cX8_act 47 = .ok (.aload_n 0, 1) := by decide +kernel
theorem dX8_act_48 : decode cX8_act 48 = .ok (.getfield 69, 3) := by decide +kernel
theorem dX8_act_51 : decode cX8_act 51 = .ok (.iload_n 1, 1) := by decide +kernel
theorem dX8_act_52 : decode cX8_act 52 = .ok (.iconst 1, 1) := by decide +kernel
theorem dX8_act_53 : decode cX8_act 53 = .ok (.invokevirtual 105, 3) := by decide +kernel
theorem dX8_act_56 : decode cX8_act 56 = .ok (.putfield 314, 3) := by decide +kernel
theorem dX8_act_59 : decode cX8_act 59 = .ok (.aload_n 0, 1) := by decide +kernel
theorem dX8_act_60 : decode cX8_act 60 = .ok (.getfield 75, 3) := by decide +kernel
theorem dX8_act_63 : decode cX8_act 63 = .ok (.iload 4, 2) := by decide +kernel
theorem dX8_act_65 : decode cX8_act 65 = .ok (.iconst 1, 1) := by decide +kernel
theorem dX8_act_66 : decode cX8_act 66 = .ok (.if_icmp .ne 20, 3) := by decide +kernel
theorem dX8_act_69 : decode cX8_act 69 = .ok (.aload_n 0, 1) := by decide +kernel
theorem dX8_act_70 : decode cX8_act 70 = .ok (.getfield 10, 3) := by decide +kernel
theorem dX8_act_73 : decode cX8_act 73 = .ok (.aload_n 0, 1) := by decide +kernel
theorem dX8_act_74 : decode cX8_act 74 = .ok (.getfield 75, 3) := by decide +kernel
theorem dX8_act_77 : decode cX8_act 77 = .ok (.getfield 314, 3) := by decide +kernel
theorem dX8_act_80 : decode cX8_act 80 = .ok (.invokevirtual 109, 3) := by decide +kernel
theorem dX8_act_83 : decode cX8_act 83 = .ok (.goto 21, 3) := by decide +kernel
theorem dX8_act_86 : decode cX8_act 86 = .ok (.aload_n 0, 1) := by decide +kernel
theorem dX8_act_87 : decode cX8_act 87 = .ok (.getfield 10, 3) := by decide +kernel
theorem dX8_act_90 : decode cX8_act 90 = .ok (.getfield 122, 3) := by decide +kernel
theorem dX8_act_93 : decode cX8_act 93 = .ok (.aload_n 0, 1) := by decide +kernel
theorem dX8_act_94 : decode cX8_act 94 = .ok (.getfield 75, 3) := by decide +kernel
theorem dX8_act_97 : decode cX8_act 97 = .ok (.getfield 314, 3) := by decide +kernel
theorem dX8_act_100 : decode cX8_act 100 = .ok (.iconst 3, 1) := by decide +kernel
theorem dX8_act_101 : decode cX8_act 101 = .ok (.invokevirtual 105, 3) := by decide +kernel
theorem dX8_act_104 : decode cX8_act 104 = .ok (.putfield 317, 3) := by decide +kernel
theorem dX8_act_107 : decode cX8_act 107 = .ok (.aload_n 0, 1) := by decide +kernel
theorem dX8_act_108 : decode cX8_act 108 = .ok (.getfield 75, 3) := by decide +kernel
theorem dX8_act_111 : decode cX8_act 111 = .ok (.iload_n 2, 1) := by decide +kernel
theorem dX8_act_112 : decode cX8_act 112 = .ok (.iload_n 3, 1) := by decide +kernel
theorem dX8_act_113 : decode cX8_act 113 = .ok (.invokevirtual 320, 3) := by decide +kernel
theorem dX8_act_116 : decode cX8_act 116 = .ok (.ireturn, 1) := by decide +kernel
theorem dX8_heldOn_0 : decode cX8_heldOn 0 = .ok (.aload_n 0, 1) := by decide +kernel
theorem dX8_heldOn_1 : decode cX8_heldOn 1 = .ok (.getfield 69, 3) := by decide +kernel
theorem dX8_heldOn_4 : decode cX8_heldOn 4 = .ok (.iload_n 1, 1) := by decide +kernel
theorem dX8_heldOn_5 : decode cX8_heldOn 5 = .ok (.invokevirtual 102, 3) := by decide +kernel
theorem dX8_heldOn_8 : decode cX8_heldOn 8 = .ok (.ifCond .ne 5, 3) := by decide +kernel
theorem dX8_heldOn_11 : decode cX8_heldOn 11 = .ok (.iconst 3, 1) := by decide +kernel
theorem dX8_heldOn_12 : decode cX8_heldOn 12 = .ok (.ireturn, 1) := by decide +kernel
theorem dX8_heldOn_13 : decode cX8_heldOn 13 = .ok (.aload_n 0, 1) := by decide +kernel
theorem dX8_heldOn_14 : decode cX8_heldOn 14 = .ok (.getfield 69, 3) := by decide +kernel
theorem dX8_heldOn_17 : decode cX8_heldOn 17 = .ok (.iload_n 1, 1) := by decide +kernel
theorem dX8_heldOn_18 : decode cX8_heldOn 18 = .ok (.iconst 0, 1) := by decide +kernel
theorem dX8_heldOn_19 : decode cX8_heldOn 19 = .ok (.invokevirtual 105, 3) := by decide +kernel
theorem dX8_heldOn_22 : decode cX8_heldOn 22 = .ok (.istore_n 2, 1) := by decide +kernel
theorem dX8_heldOn_23 : decode cX8_heldOn 23 = .ok (.aload_n 0, 1) := by decide +kernel
theorem dX8_heldOn_24 : decode cX8_heldOn 24 = .ok (.getfield 69, 3) := by decide +kernel
theorem dX8_heldOn_27 : decode cX8_heldOn 27 = .ok (.iload_n 1, 1) := by decide +kernel
theorem dX8_heldOn_28 : decode cX8_heldOn 28 = .ok (.iconst 1, 1) := by decide +kernel
theorem dX8_heldOn_29 : decode cX8_heldOn 29 = .ok (.invokevirtual 105, 3) := by decide +kernel
theorem dX8_heldOn_32 : decode cX8_heldOn 32 = .ok (.istore_n 3, 1) := by decide +kernel
theorem dX8_heldOn_33 : decode cX8_heldOn 33 = .ok (.iload_n 2, 1) := by decide +kernel
theorem dX8_heldOn_34 : decode cX8_heldOn 34 = .ok (.ifCond .ne 19, 3) := by decide +kernel
theorem dX8_heldOn_37 : decode cX8_heldOn 37 = .ok (.aload_n 0, 1) := by decide +kernel
theorem dX8_heldOn_38 : decode cX8_heldOn 38 = .ok (.getfield 10, 3) := by decide +kernel
theorem dX8_heldOn_41 : decode cX8_heldOn 41 = .ok (.getfield 122, 3) := by decide +kernel
theorem dX8_heldOn_44 : decode cX8_heldOn 44 = .ok (.iload_n 3, 1) := by decide +kernel
theorem dX8_heldOn_45 : decode cX8_heldOn 45 = .ok (.invokevirtual 102, 3) := by decide +kernel
theorem dX8_heldOn_48 : decode cX8_heldOn 48 = .ok (.ifCond .ne 5, 3) := by decide +kernel
theorem dX8_heldOn_51 : decode cX8_heldOn 51 = .ok (.iconst 3, 1) := by decide +kernel
theorem dX8_heldOn_52 : decode cX8_heldOn 52 = .ok (.ireturn, 1) := by decide +kernel
theorem dX8_heldOn_53 : decode cX8_heldOn 53 = .ok (.iload_n 2, 1) := by decide +kernel
theorem dX8_heldOn_54 : decode cX8_heldOn 54 = .ok (.iconst 1, 1) := by decide +kernel
theorem dX8_heldOn_55 : decode cX8_heldOn 55 = .ok (.if_icmp .ne 19, 3) := by decide +kernel
theorem dX8_heldOn_58 : decode cX8_heldOn 58 = .ok (.aload_n 0, 1) := by decide +kernel
theorem dX8_heldOn_59 : decode cX8_heldOn 59 = .ok (.getfield 10, 3) := by decide +kernel
theorem dX8_heldOn_62 : decode cX8_heldOn 62 = .ok (.getfield 95, 3) := by decide +kernel
theorem dX8_heldOn_65 : decode cX8_heldOn 65 = .ok (.iload_n 3, 1) := by decide +kernel
theorem dX8_heldOn_66 : decode cX8_heldOn 66 = .ok (.invokevirtual 102, 3) := by decide +kernel
theorem dX8_heldOn_69 : decode cX8_heldOn 69 = .ok (.ifCond .ne 5, 3) := by decide +kernel
theorem dX8_heldOn_72 : decode cX8_heldOn 72 = .ok (.iconst 3, 1) := by decide +kernel
theorem dX8_heldOn_73 : decode cX8_heldOn 73 = .ok (.ireturn, 1) := by decide +kernel
theorem dX8_heldOn_74 : decode cX8_heldOn 74 = .ok (.iload_n 2, 1) := by decide +kernel
theorem dX8_heldOn_75 : decode cX8_heldOn 75 = .ok (.ireturn, 1) := by decide +kernel
theorem dX8_kindOn_0 : decode cX8_kindOn 0 = .ok (.aload_n 0, 1) := by decide +kernel
theorem dX8_kindOn_1 : decode cX8_kindOn 1 = .ok (.getfield 69, 3) := by decide +kernel
theorem dX8_kindOn_4 : decode cX8_kindOn 4 = .ok (.iload_n 1, 1) := by decide +kernel
theorem dX8_kindOn_5 : decode cX8_kindOn 5 = .ok (.iconst 0, 1) := by decide +kernel
theorem dX8_kindOn_6 : decode cX8_kindOn 6 = .ok (.invokevirtual 105, 3) := by decide +kernel
theorem dX8_kindOn_9 : decode cX8_kindOn 9 = .ok (.iconst 1, 1) := by decide +kernel
theorem dX8_kindOn_10 : decode cX8_kindOn 10 = .ok (.if_icmp .ne 6, 3) := by decide +kernel
theorem dX8_kindOn_13 : decode cX8_kindOn 13 = .ok (.bipush 8, 2) := by decide +kernel
theorem dX8_kindOn_15 : decode cX8_kindOn 15 = .ok (.ireturn, 1) := by decide +kernel
theorem dX8_kindOn_16 : decode cX8_kindOn 16 = .ok (.aload_n 0, 1) := by decide +kernel
theorem dX8_kindOn_17 : decode cX8_kindOn 17 = .ok (.getfield 10, 3) := by decide +kernel
theorem dX8_kindOn_20 : decode cX8_kindOn 20 = .ok (.getfield 122, 3) := by decide +kernel
theorem dX8_kindOn_23 : decode cX8_kindOn 23 = .ok (.aload_n 0, 1) := by decide +kernel
theorem dX8_kindOn_24 : decode cX8_kindOn 24 = .ok (.getfield 69, 3) := by decide +kernel
theorem dX8_kindOn_27 : decode cX8_kindOn 27 = .ok (.iload_n 1, 1) := by decide +kernel
theorem dX8_kindOn_28 : decode cX8_kindOn 28 = .ok (.iconst 1, 1) := by decide +kernel
theorem dX8_kindOn_29 : decode cX8_kindOn 29 = .ok (.invokevirtual 105, 3) := by decide +kernel
theorem dX8_kindOn_32 : decode cX8_kindOn 32 = .ok (.iconst 1, 1) := by decide +kernel
theorem dX8_kindOn_33 : decode cX8_kindOn 33 = .ok (.invokevirtual 105, 3) := by decide +kernel
theorem dX8_kindOn_36 : decode cX8_kindOn 36 = .ok (.ireturn, 1) := by decide +kernel
theorem dX8_trace_0 : decode cX8_trace 0 = .ok (.aload_n 0, 1) := by decide +kernel
theorem dX8_trace_1 : decode cX8_trace 1 = .ok (.getfield 75, 3) := by decide +kernel
theorem dX8_trace_4 : decode cX8_trace 4 = .ok (.getfield 308, 3) := by decide +kernel
theorem dX8_trace_7 : decode cX8_trace 7 = .ok (.iload_n 1, 1) := by decide +kernel
theorem dX8_trace_8 : decode cX8_trace 8 = .ok (.invokevirtual 323, 3) := by decide +kernel
theorem dX8_trace_11 : decode cX8_trace 11 = .ok (.ifCond .eq 17, 3) := by decide +kernel
theorem dX8_trace_14 : decode cX8_trace 14 = .ok (.aload_n 0, 1) := by decide +kernel
theorem dX8_trace_15 : decode cX8_trace 15 = .ok (.getfield 75, 3) := by decide +kernel
theorem dX8_trace_18 : decode cX8_trace 18 = .ok (.getfield 308, 3) := by decide +kernel
theorem dX8_trace_21 : decode cX8_trace 21 = .ok (.iload_n 1, 1) := by decide +kernel
theorem dX8_trace_22 : decode cX8_trace 22 = .ok (.invokevirtual 324, 3) := by decide +kernel
theorem dX8_trace_25 : decode cX8_trace 25 = .ok (.goto 5, 3) := by decide +kernel
theorem dX8_trace_28 : decode cX8_trace 28 = .ok (.bipush (-3), 2) := by decide +kernel
theorem dX8_trace_30 : decode cX8_trace 30 = .ok (.ireturn, 1) := by decide +kernel
theorem dX8_many_0 : decode cX8_many 0 = .ok (.iload_n 1, 1) := by decide +kernel
theorem dX8_many_1 : decode cX8_many 1 = .ok (.tableswitch 153 0 9 #[55, 66, 77, 88, 96, 107, 118, 126, 134, 142], 55) := by decide +kernel
theorem dX8_many_56 : decode cX8_many 56 = .ok (.aload_n 0, 1) := by decide +kernel
theorem dX8_many_57 : decode cX8_many 57 = .ok (.getfield 10, 3) := by decide +kernel
theorem dX8_many_60 : decode cX8_many 60 = .ok (.getfield 95, 3) := by decide +kernel
theorem dX8_many_63 : decode cX8_many 63 = .ok (.getfield 228, 3) := by decide +kernel
theorem dX8_many_66 : decode cX8_many 66 = .ok (.ireturn, 1) := by decide +kernel
theorem dX8_many_67 : decode cX8_many 67 = .ok (.aload_n 0, 1) := by decide +kernel
theorem dX8_many_68 : decode cX8_many 68 = .ok (.getfield 10, 3) := by decide +kernel
theorem dX8_many_71 : decode cX8_many 71 = .ok (.getfield 122, 3) := by decide +kernel
theorem dX8_many_74 : decode cX8_many 74 = .ok (.getfield 228, 3) := by decide +kernel
theorem dX8_many_77 : decode cX8_many 77 = .ok (.ireturn, 1) := by decide +kernel
theorem dX8_many_78 : decode cX8_many 78 = .ok (.aload_n 0, 1) := by decide +kernel
theorem dX8_many_79 : decode cX8_many 79 = .ok (.getfield 10, 3) := by decide +kernel
theorem dX8_many_82 : decode cX8_many 82 = .ok (.getfield 216, 3) := by decide +kernel
theorem dX8_many_85 : decode cX8_many 85 = .ok (.getfield 228, 3) := by decide +kernel
theorem dX8_many_88 : decode cX8_many 88 = .ok (.ireturn, 1) := by decide +kernel
theorem dX8_many_89 : decode cX8_many 89 = .ok (.aload_n 0, 1) := by decide +kernel
theorem dX8_many_90 : decode cX8_many 90 = .ok (.getfield 10, 3) := by decide +kernel
theorem dX8_many_93 : decode cX8_many 93 = .ok (.getfield 191, 3) := by decide +kernel
theorem dX8_many_96 : decode cX8_many 96 = .ok (.ireturn, 1) := by decide +kernel
theorem dX8_many_97 : decode cX8_many 97 = .ok (.aload_n 0, 1) := by decide +kernel
theorem dX8_many_98 : decode cX8_many 98 = .ok (.getfield 10, 3) := by decide +kernel
theorem dX8_many_101 : decode cX8_many 101 = .ok (.getfield 237, 3) := by decide +kernel
theorem dX8_many_104 : decode cX8_many 104 = .ok (.getfield 228, 3) := by decide +kernel
theorem dX8_many_107 : decode cX8_many 107 = .ok (.ireturn, 1) := by decide +kernel
theorem dX8_many_108 : decode cX8_many 108 = .ok (.aload_n 0, 1) := by decide +kernel
theorem dX8_many_109 : decode cX8_many 109 = .ok (.getfield 10, 3) := by decide +kernel
theorem dX8_many_112 : decode cX8_many 112 = .ok (.getfield 258, 3) := by decide +kernel
theorem dX8_many_115 : decode cX8_many 115 = .ok (.getfield 228, 3) := by decide +kernel
theorem dX8_many_118 : decode cX8_many 118 = .ok (.ireturn, 1) := by decide +kernel
theorem dX8_many_119 : decode cX8_many 119 = .ok (.aload_n 0, 1) := by decide +kernel
theorem dX8_many_120 : decode cX8_many 120 = .ok (.getfield 10, 3) := by decide +kernel
theorem dX8_many_123 : decode cX8_many 123 = .ok (.invokevirtual 261, 3) := by decide +kernel
theorem dX8_many_126 : decode cX8_many 126 = .ok (.ireturn, 1) := by decide +kernel
theorem dX8_many_127 : decode cX8_many 127 = .ok (.aload_n 0, 1) := by decide +kernel
theorem dX8_many_128 : decode cX8_many 128 = .ok (.getfield 58, 3) := by decide +kernel
theorem dX8_many_131 : decode cX8_many 131 = .ok (.getfield 228, 3) := by decide +kernel
theorem dX8_many_134 : decode cX8_many 134 = .ok (.ireturn, 1) := by decide +kernel
theorem dX8_many_135 : decode cX8_many 135 = .ok (.aload_n 0, 1) := by decide +kernel
theorem dX8_many_136 : decode cX8_many 136 = .ok (.getfield 49, 3) := by decide +kernel
theorem dX8_many_139 : decode cX8_many 139 = .ok (.getfield 203, 3) := by decide +kernel
theorem dX8_many_142 : decode cX8_many 142 = .ok (.ireturn, 1) := by decide +kernel
theorem dX8_many_143 : decode cX8_many 143 = .ok (.aload_n 0, 1) := by decide +kernel
theorem dX8_many_144 : decode cX8_many 144 = .ok (.getfield 75, 3) := by decide +kernel
theorem dX8_many_147 : decode cX8_many 147 = .ok (.getfield 308, 3) := by decide +kernel
theorem dX8_many_150 : decode cX8_many 150 = .ok (.getfield 203, 3) := by decide +kernel
theorem dX8_many_153 : decode cX8_many 153 = .ok (.ireturn, 1) := by decide +kernel
theorem dX8_many_154 : decode cX8_many 154 = .ok (.iconst (-1), 1) := by decide +kernel
theorem dX8_many_155 : decode cX8_many 155 = .ok (.ireturn, 1) := by decide +kernel
theorem dX8_keep_0 : decode cX8_keep 0 = .ok (.aload_n 0, 1) := by decide +kernel
theorem dX8_keep_1 : decode cX8_keep 1 = .ok (.getfield 16, 3) := by decide +kernel
theorem dX8_keep_4 : decode cX8_keep 4 = .ok (.aload_n 0, 1) := by decide +kernel
theorem dX8_keep_5 : decode cX8_keep 5 = .ok (.getfield 10, 3) := by decide +kernel
theorem dX8_keep_8 : decode cX8_keep 8 = .ok (.invokevirtual 325, 3) := by decide +kernel
theorem dX8_keep_11 : decode cX8_keep 11 = .ok (.aload_n 0, 1) := by decide +kernel
theorem dX8_keep_12 : decode cX8_keep 12 = .ok (.iconst 1, 1) := by decide +kernel
theorem dX8_keep_13 : decode cX8_keep 13 = .ok (.putfield 19, 3) := by decide +kernel
theorem dX8_keep_16 : decode cX8_keep 16 = .ok (.iconst 1, 1) := by decide +kernel
theorem dX8_keep_17 : decode cX8_keep 17 = .ok (.ireturn, 1) := by decide +kernel
theorem dX8_again_0 : decode cX8_again 0 = .ok (.aload_n 0, 1) := by decide +kernel
theorem dX8_again_1 : decode cX8_again 1 = .ok (.getfield 19, 3) := by decide +kernel
theorem dX8_again_4 : decode cX8_again 4 = .ok (.ifCond .ne 6, 3) := by decide +kernel
theorem dX8_again_7 : decode cX8_again 7 = .ok (.bipush (-3), 2) := by decide +kernel
theorem dX8_again_9 : decode cX8_again 9 = .ok (.ireturn, 1) := by decide +kernel
theorem dX8_again_10 : decode cX8_again 10 = .ok (.aload_n 0, 1) := by decide +kernel
theorem dX8_again_11 : decode cX8_again 11 = .ok (.getfield 10, 3) := by decide +kernel
theorem dX8_again_14 : decode cX8_again 14 = .ok (.aload_n 0, 1) := by decide +kernel
theorem dX8_again_15 : decode cX8_again 15 = .ok (.getfield 16, 3) := by decide +kernel
theorem dX8_again_18 : decode cX8_again 18 = .ok (.invokevirtual 325, 3) := by decide +kernel
theorem dX8_again_21 : decode cX8_again 21 = .ok (.iconst 1, 1) := by decide +kernel
theorem dX8_again_22 : decode cX8_again 22 = .ok (.ireturn, 1) := by decide +kernel
theorem dX8_isWithin_0 : decode cX8_isWithin 0 = .ok (.iload_n 0, 1) := by decide +kernel
theorem dX8_isWithin_1 : decode cX8_isWithin 1 = .ok (.iload_n 1, 1) := by decide +kernel
theorem dX8_isWithin_2 : decode cX8_isWithin 2 = .ok (.if_icmp .lt 12, 3) := by decide +kernel
theorem dX8_isWithin_5 : decode cX8_isWithin 5 = .ok (.iload_n 0, 1) := by decide +kernel
theorem dX8_isWithin_6 : decode cX8_isWithin 6 = .ok (.iload_n 2, 1) := by decide +kernel
theorem dX8_isWithin_7 : decode cX8_isWithin 7 = .ok (.if_icmp .gt 7, 3) := by decide +kernel
theorem dX8_isWithin_10 : decode cX8_isWithin 10 = .ok (.iconst 1, 1) := by decide +kernel
theorem dX8_isWithin_11 : decode cX8_isWithin 11 = .ok (.goto 4, 3) := by decide +kernel
theorem dX8_isWithin_14 : decode cX8_isWithin 14 = .ok (.iconst 0, 1) := by decide +kernel
theorem dX8_isWithin_15 : decode cX8_isWithin 15 = .ok (.ireturn, 1) := by decide +kernel
theorem dX8_isYear_0 : decode cX8_isYear 0 = .ok (.iload_n 0, 1) := by decide +kernel
theorem dX8_isYear_1 : decode cX8_isYear 1 = .ok (.iconst 0, 1) := by decide +kernel
theorem dX8_isYear_2 : decode cX8_isYear 2 = .ok (.sipush 160, 3) := by decide +kernel
theorem dX8_isYear_5 : decode cX8_isYear 5 = .ok (.invokestatic 91, 3) := by decide +kernel
theorem dX8_isYear_8 : decode cX8_isYear 8 = .ok (.ireturn, 1) := by decide +kernel
theorem dX8_isHouse_0 : decode cX8_isHouse 0 = .ok (.iload_n 0, 1) := by decide +kernel
theorem dX8_isHouse_1 : decode cX8_isHouse 1 = .ok (.iconst 0, 1) := by decide +kernel
theorem dX8_isHouse_2 : decode cX8_isHouse 2 = .ok (.iconst 5, 1) := by decide +kernel
theorem dX8_isHouse_3 : decode cX8_isHouse 3 = .ok (.invokestatic 91, 3) := by decide +kernel
theorem dX8_isHouse_6 : decode cX8_isHouse 6 = .ok (.ireturn, 1) := by decide +kernel
theorem dX8_isSheet_0 : decode cX8_isSheet 0 = .ok (.iload_n 0, 1) := by decide +kernel
theorem dX8_isSheet_1 : decode cX8_isSheet 1 = .ok (.iconst 0, 1) := by decide +kernel
theorem dX8_isSheet_2 : decode cX8_isSheet 2 = .ok (.iconst 3, 1) := by decide +kernel
theorem dX8_isSheet_3 : decode cX8_isSheet 3 = .ok (.invokestatic 91, 3) := by decide +kernel
theorem dX8_isSheet_6 : decode cX8_isSheet 6 = .ok (.ireturn, 1) := by decide +kernel
theorem dX8_isSort_0 : decode cX8_isSort 0 = .ok (.iload_n 0, 1) := by decide +kernel
theorem dX8_isSort_1 : decode cX8_isSort 1 = .ok (.iconst 0, 1) := by decide +kernel
theorem dX8_isSort_2 : decode cX8_isSort 2 = .ok (.iconst 3, 1) := by decide +kernel
theorem dX8_isSort_3 : decode cX8_isSort 3 = .ok (.invokestatic 91, 3) := by decide +kernel
theorem dX8_isSort_6 : decode cX8_isSort 6 = .ok (.ireturn, 1) := by decide +kernel
theorem dX8_bit_0 : decode cX8_bit 0 = .ok (.iconst 1, 1) := by decide +kernel
theorem dX8_bit_1 : decode cX8_bit 1 = .ok (.iload_n 0, 1) := by decide +kernel
theorem dX8_bit_2 : decode cX8_bit 2 = .ok (.ishl, 1) := by decide +kernel
theorem dX8_bit_3 : decode cX8_bit 3 = .ok (.ireturn, 1) := by decide +kernel
theorem dX8_isUnder_0 : decode cX8_isUnder 0 = .ok (.iload_n 0, 1) := by decide +kernel
theorem dX8_isUnder_1 : decode cX8_isUnder 1 = .ok (.istore_n 2, 1) := by decide +kernel
theorem dX8_isUnder_2 : decode cX8_isUnder 2 = .ok (.iconst 0, 1) := by decide +kernel
theorem dX8_isUnder_3 : decode cX8_isUnder 3 = .ok (.istore_n 3, 1) := by decide +kernel
theorem dX8_isUnder_4 : decode cX8_isUnder 4 = .ok (.iload_n 3, 1) := by decide +kernel
theorem dX8_isUnder_5 : decode cX8_isUnder 5 = .ok (.getstatic 328, 3) := by decide +kernel
theorem dX8_isUnder_8 : decode cX8_isUnder 8 = .ok (.arraylength, 1) := by decide +kernel
theorem dX8_isUnder_9 : decode cX8_isUnder 9 = .ok (.if_icmp .ge 34, 3) := by decide +kernel
theorem dX8_isUnder_12 : decode cX8_isUnder 12 = .ok (.iload_n 2, 1) := by decide +kernel
theorem dX8_isUnder_13 : decode cX8_isUnder 13 = .ok (.ifCond .lt 30, 3) := by decide +kernel
theorem dX8_isUnder_16 : decode cX8_isUnder 16 = .ok (.iload_n 2, 1) := by decide +kernel
theorem dX8_isUnder_17 : decode cX8_isUnder 17 = .ok (.getstatic 328, 3) := by decide +kernel
theorem dX8_isUnder_20 : decode cX8_isUnder 20 = .ok (.arraylength, 1) := by decide +kernel
theorem dX8_isUnder_21 : decode cX8_isUnder 21 = .ok (.if_icmp .ge 22, 3) := by decide +kernel
theorem dX8_isUnder_24 : decode cX8_isUnder 24 = .ok (.iload_n 2, 1) := by decide +kernel
theorem dX8_isUnder_25 : decode cX8_isUnder 25 = .ok (.iload_n 1, 1) := by decide +kernel
theorem dX8_isUnder_26 : decode cX8_isUnder 26 = .ok (.if_icmp .ne 5, 3) := by decide +kernel
theorem dX8_isUnder_29 : decode cX8_isUnder 29 = .ok (.iconst 1, 1) := by decide +kernel
theorem dX8_isUnder_30 : decode cX8_isUnder 30 = .ok (.ireturn, 1) := by decide +kernel
theorem dX8_isUnder_31 : decode cX8_isUnder 31 = .ok (.getstatic 328, 3) := by decide +kernel
theorem dX8_isUnder_34 : decode cX8_isUnder 34 = .ok (.iload_n 2, 1) := by decide +kernel
theorem dX8_isUnder_35 : decode cX8_isUnder 35 = .ok (.iaload, 1) := by decide +kernel
theorem dX8_isUnder_36 : decode cX8_isUnder 36 = .ok (.istore_n 2, 1) := by decide +kernel
theorem dX8_isUnder_37 : decode cX8_isUnder 37 = .ok (.iinc 3 1, 3) := by decide +kernel
theorem dX8_isUnder_40 : decode cX8_isUnder 40 = .ok (.goto (-36), 3) := by decide +kernel
theorem dX8_isUnder_43 : decode cX8_isUnder 43 = .ok (.iconst 0, 1) := by decide +kernel
theorem dX8_isUnder_44 : decode cX8_isUnder 44 = .ok (.ireturn, 1) := by decide +kernel
theorem dX9_init_0 : decode cX9_init 0 = .ok (.aload_n 0, 1) := by decide +kernel
theorem dX9_init_1 : decode cX9_init 1 = .ok (.invokespecial 1, 3) := by decide +kernel
theorem dX9_init_4 : decode cX9_init 4 = .ok (.aload_n 0, 1) := by decide +kernel
theorem dX9_init_5 : decode cX9_init 5 = .ok (.bipush 40, 2) := by decide +kernel
theorem dX9_init_7 : decode cX9_init 7 = .ok (.newarray .int, 2) := by decide +kernel
theorem dX9_init_9 : decode cX9_init 9 = .ok (.putfield 7, 3) := by decide +kernel
theorem dX9_init_12 : decode cX9_init 12 = .ok (.aload_n 0, 1) := by decide +kernel
theorem dX9_init_13 : decode cX9_init 13 = .ok (.sipush 180, 3) := by decide +kernel
theorem dX9_init_16 : decode cX9_init 16 = .ok (.newarray .int, 2) := by decide +kernel
theorem dX9_init_18 : decode cX9_init 18 = .ok (.putfield 13, 3) := by decide +kernel
theorem dX9_init_21 : decode cX9_init 21 = .ok (.aload_n 0, 1) := by decide +kernel
theorem dX9_init_22 : decode cX9_init 22 = .ok (.bipush 17, 2) := by decide +kernel
theorem dX9_init_24 : decode cX9_init 24 = .ok (.newarray .int, 2) := by decide +kernel
theorem dX9_init_26 : decode cX9_init 26 = .ok (.putfield 16, 3) := by decide +kernel
theorem dX9_init_29 : decode cX9_init 29 = .ok (.aload_n 0, 1) := by decide +kernel
theorem dX9_init_30 : decode cX9_init 30 = .ok (.bipush 80, 2) := by decide +kernel
theorem dX9_init_32 : decode cX9_init 32 = .ok (.newarray .int, 2) := by decide +kernel
theorem dX9_init_34 : decode cX9_init 34 = .ok (.putfield 19, 3) := by decide +kernel
theorem dX9_init_37 : decode cX9_init 37 = .ok (.aload_n 0, 1) := by decide +kernel
theorem dX9_init_38 : decode cX9_init 38 = .ok (.bipush 80, 2) := by decide +kernel
theorem dX9_init_40 : decode cX9_init 40 = .ok (.newarray .int, 2) := by decide +kernel
theorem dX9_init_42 : decode cX9_init 42 = .ok (.putfield 22, 3) := by decide +kernel
theorem dX9_init_45 : decode cX9_init 45 = .ok (.aload_n 0, 1) := by decide +kernel
theorem dX9_init_46 : decode cX9_init 46 = .ok (.bipush 32, 2) := by decide +kernel
theorem dX9_init_48 : decode cX9_init 48 = .ok (.newarray .int, 2) := by decide +kernel
theorem dX9_init_50 : decode cX9_init 50 = .ok (.putfield 25, 3) := by decide +kernel
theorem dX9_init_53 : decode cX9_init 53 = .ok (.aload_n 0, 1) := by decide +kernel
theorem dX9_init_54 : decode cX9_init 54 = .ok (.bipush 6, 2) := by decide +kernel
theorem dX9_init_56 : decode cX9_init 56 = .ok (.newarray .int, 2) := by decide +kernel
theorem dX9_init_58 : decode cX9_init 58 = .ok (.putfield 28, 3) := by decide +kernel
theorem dX9_init_61 : decode cX9_init 61 = .ok (.aload_n 0, 1) := by decide +kernel
theorem dX9_init_62 : decode cX9_init 62 = .ok (.bipush 6, 2) := by decide +kernel
theorem dX9_init_64 : decode cX9_init 64 = .ok (.newarray .int, 2) := by decide +kernel
theorem dX9_init_66 : decode cX9_init 66 = .ok (.putfield 31, 3) := by decide +kernel
theorem dX9_init_69 : decode cX9_init 69 = .ok (.aload_n 0, 1) := by decide +kernel
theorem dX9_init_70 : decode cX9_init 70 = .ok (.sipush 210, 3) := by decide +kernel
theorem dX9_init_73 : decode cX9_init 73 = .ok (.newarray .int, 2) := by decide +kernel
theorem dX9_init_75 : decode cX9_init 75 = .ok (.putfield 34, 3) := by decide +kernel
theorem dX9_init_78 : decode cX9_init 78 = .ok (.aload_n 0, 1) := by decide +kernel
theorem dX9_init_79 : decode cX9_init 79 = .ok (.bipush 6, 2) := by decide +kernel
theorem dX9_init_81 : decode cX9_init 81 = .ok (.newarray .int, 2) := by decide +kernel
theorem dX9_init_83 : decode cX9_init 83 = .ok (.putfield 37, 3) := by decide +kernel
theorem dX9_init_86 : decode cX9_init 86 = .ok (.aload_n 0, 1) := by decide +kernel
theorem dX9_init_87 : decode cX9_init 87 = .ok (.sipush 200, 3) := by decide +kernel
theorem dX9_init_90 : decode cX9_init 90 = .ok (.newarray .int, 2) := by decide +kernel
theorem dX9_init_92 : decode cX9_init 92 = .ok (.putfield 40, 3) := by decide +kernel
theorem dX9_init_95 : decode cX9_init 95 = .ok (.aload_n 0, 1) := by decide +kernel
theorem dX9_init_96 : decode cX9_init 96 = .ok (.sipush 210, 3) := by decide +kernel
theorem dX9_init_99 : decode cX9_init 99 = .ok (.newarray .int, 2) := by decide +kernel
theorem dX9_init_101 : decode cX9_init 101 = .ok (.putfield 43, 3) := by decide +kernel
theorem dX9_init_104 : decode cX9_init 104 = .ok (.aload_n 0, 1) := by decide +kernel
theorem dX9_init_105 : decode cX9_init 105 = .ok (.sipush 210, 3) := by decide +kernel
theorem dX9_init_108 : decode cX9_init 108 = .ok (.newarray .int, 2) := by decide +kernel
theorem dX9_init_110 : decode cX9_init 110 = .ok (.putfield 46, 3) := by decide +kernel
theorem dX9_init_113 : decode cX9_init 113 = .ok (.aload_n 0, 1) := by decide +kernel
theorem dX9_init_114 : decode cX9_init 114 = .ok (.bipush 6, 2) := by decide +kernel
theorem dX9_init_116 : decode cX9_init 116 = .ok (.newarray .int, 2) := by decide +kernel
theorem dX9_init_118 : decode cX9_init 118 = .ok (.putfield 49, 3) := by decide +kernel
theorem dX9_init_121 : decode cX9_init 121 = .ok (.aload_n 0, 1) := by decide +kernel
theorem dX9_init_122 : decode cX9_init 122 = .ok (.bipush 6, 2) := by decide +kernel
theorem dX9_init_124 : decode cX9_init 124 = .ok (.newarray .int, 2) := by decide +kernel
theorem dX9_init_126 : decode cX9_init 126 = .ok (.putfield 52, 3) := by decide +kernel
theorem dX9_init_129 : decode cX9_init 129 = .ok (.aload_n 0, 1) := by decide +kernel
theorem dX9_init_130 : decode cX9_init 130 = .ok (.sipush 210, 3) := by decide +kernel
theorem dX9_init_133 : decode cX9_init 133 = .ok (.newarray .int, 2) := by decide +kernel
theorem dX9_init_135 : decode cX9_init 135 = .ok (.putfield 55, 3) := by decide +kernel
theorem dX9_init_138 : decode cX9_init 138 = .ok (.aload_n 0, 1) := by decide +kernel
theorem dX9_init_139 : decode cX9_init 139 = .ok (.bipush 14, 2) := by decide +kernel
theorem dX9_init_141 : decode cX9_init 141 = .ok (.newarray .int, 2) := by decide +kernel
theorem dX9_init_143 : decode cX9_init 143 = .ok (.putfield 58, 3) := by decide +kernel
theorem dX9_init_146 : decode cX9_init 146 = .ok (.aload_n 0, 1) := by decide +kernel
theorem dX9_init_147 : decode cX9_init 147 = .ok (.iconst 4, 1) := by decide +kernel
theorem dX9_init_148 : decode cX9_init 148 = .ok (.newarray .int, 2) := by decide +kernel
theorem dX9_init_150 : decode cX9_init 150 = .ok (.dup, 1) := by decide +kernel
theorem dX9_init_151 : decode cX9_init 151 = .ok (.iconst 0, 1) := by decide +kernel
theorem dX9_init_152 : decode cX9_init 152 = .ok (.iconst (-1), 1) := by decide +kernel
theorem dX9_init_153 : decode cX9_init 153 = .ok (.iastore, 1) := by decide +kernel
theorem dX9_init_154 : decode cX9_init 154 = .ok (.dup, 1) := by decide +kernel
theorem dX9_init_155 : decode cX9_init 155 = .ok (.iconst 1, 1) := by decide +kernel
theorem dX9_init_156 : decode cX9_init 156 = .ok (.iconst (-1), 1) := by decide +kernel
theorem dX9_init_157 : decode cX9_init 157 = .ok (.iastore, 1) := by decide +kernel
theorem dX9_init_158 : decode cX9_init 158 = .ok (.dup, 1) := by decide +kernel
theorem dX9_init_159 : decode cX9_init 159 = .ok (.iconst 2, 1) := by decide +kernel
theorem dX9_init_160 : decode cX9_init 160 = .ok (.iconst (-1), 1) := by decide +kernel
theorem dX9_init_161 : decode cX9_init 161 = .ok (.iastore, 1) := by decide +kernel
theorem dX9_init_162 : decode cX9_init 162 = .ok (.dup, 1) := by decide +kernel
theorem dX9_init_163 : decode cX9_init 163 = .ok (.iconst 3, 1) := by decide +kernel
theorem dX9_init_164 : decode cX9_init 164 = .ok (.iconst (-1), 1) := by decide +kernel
theorem dX9_init_165 : decode cX9_init 165 = .ok (.iastore, 1) := by decide +kernel
theorem dX9_init_166 : decode cX9_init 166 = .ok (.putfield 61, 3) := by decide +kernel
theorem dX9_init_169 : decode cX9_init 169 = .ok (.aload_n 0, 1) := by decide +kernel
theorem dX9_init_170 : decode cX9_init 170 = .ok (.iconst 4, 1) := by decide +kernel
theorem dX9_init_171 : decode cX9_init 171 = .ok (.newarray .int, 2) := by decide +kernel
theorem dX9_init_173 : decode cX9_init 173 = .ok (.putfield 64, 3) := by decide +kernel
theorem dX9_init_176 : decode cX9_init 176 = .ok (.aload_n 0, 1) := by decide +kernel
theorem dX9_init_177 : decode cX9_init 177 = .ok (.sipush 160, 3) := by decide +kernel
theorem dX9_init_180 : decode cX9_init 180 = .ok (.newarray .long, 2) := by decide +kernel
theorem dX9_init_182 : decode cX9_init 182 = .ok (.putfield 67, 3) := by decide +kernel
theorem dX9_init_185 : decode cX9_init 185 = .ok (.aload_n 0, 1) := by decide +kernel
theorem dX9_init_186 : decode cX9_init 186 = .ok (.iconst 4, 1) := by decide +kernel
theorem dX9_init_187 : decode cX9_init 187 = .ok (.newarray .int, 2) := by decide +kernel
theorem dX9_init_189 : decode cX9_init 189 = .ok (.dup, 1) := by decide +kernel
theorem dX9_init_190 : decode cX9_init 190 = .ok (.iconst 0, 1) := by decide +kernel
theorem dX9_init_191 : decode cX9_init 191 = .ok (.iconst (-1), 1) := by decide +kernel
theorem dX9_init_192 : decode cX9_init 192 = .ok (.iastore, 1) := by decide +kernel
theorem dX9_init_193 : decode cX9_init 193 = .ok (.dup, 1) := by decide +kernel
theorem dX9_init_194 : decode cX9_init 194 = .ok (.iconst 1, 1) := by decide +kernel
theorem dX9_init_195 : decode cX9_init 195 = .ok (.iconst (-1), 1) := by decide +kernel
theorem dX9_init_196 : decode cX9_init 196 = .ok (.iastore, 1) := by decide +kernel
theorem dX9_init_197 : decode cX9_init 197 = .ok (.dup, 1) := by decide +kernel
theorem dX9_init_198 : decode cX9_init 198 = .ok (.iconst 2, 1) := by decide +kernel
theorem dX9_init_199 : decode cX9_init 199 = .ok (.iconst (-1), 1) := by decide +kernel
theorem dX9_init_200 : decode cX9_init 200 = .ok (.iastore, 1) := by decide +kernel
theorem dX9_init_201 : decode cX9_init 201 = .ok (.dup, 1) := by decide +kernel
theorem dX9_init_202 : decode cX9_init 202 = .ok (.iconst 3, 1) := by decide +kernel
theorem dX9_init_203 : decode cX9_init 203 = .ok (.iconst (-1), 1) := by decide +kernel
theorem dX9_init_204 : decode cX9_init 204 = .ok (.iastore, 1) := by decide +kernel
theorem dX9_init_205 : decode cX9_init 205 = .ok (.putfield 71, 3) := by decide +kernel
theorem dX9_init_208 : decode cX9_init 208 = .ok (.aload_n 0, 1) := by decide +kernel
theorem dX9_init_209 : decode cX9_init 209 = .ok (.iconst 4, 1) := by decide +kernel
theorem dX9_init_210 : decode cX9_init 210 = .ok (.newarray .int, 2) := by decide +kernel
theorem dX9_init_212 : decode cX9_init 212 = .ok (.putfield 74, 3) := by decide +kernel
theorem dX9_init_215 : decode cX9_init 215 = .ok (.aload_n 0, 1) := by decide +kernel
theorem dX9_init_216 : decode cX9_init 216 = .ok (.iconst 4, 1) := by decide +kernel
theorem dX9_init_217 : decode cX9_init 217 = .ok (.newarray .int, 2) := by decide +kernel
theorem dX9_init_219 : decode cX9_init 219 = .ok (.putfield 77, 3) := by decide +kernel
theorem dX9_init_222 : decode cX9_init 222 = .ok (.aload_n 0, 1) := by decide +kernel
theorem dX9_init_223 : decode cX9_init 223 = .ok (.bipush 30, 2) := by decide +kernel
theorem dX9_init_225 : decode cX9_init 225 = .ok (.newarray .int, 2) := by decide +kernel
theorem dX9_init_227 : decode cX9_init 227 = .ok (.putfield 80, 3) := by decide +kernel
theorem dX9_init_230 : decode cX9_init 230 = .ok (.aload_n 0, 1) := by decide +kernel
theorem dX9_init_231 : decode cX9_init 231 = .ok (.sipush 700, 3) := by decide +kernel
theorem dX9_init_234 : decode cX9_init 234 = .ok (.newarray .int, 2) := by decide +kernel
theorem dX9_init_236 : decode cX9_init 236 = .ok (.putfield 83, 3) := by decide +kernel
theorem dX9_init_239 : decode cX9_init 239 = .ok (.aload_n 0, 1) := by decide +kernel
theorem dX9_init_240 : decode cX9_init 240 = .ok (.bipush 6, 2) := by decide +kernel
theorem dX9_init_242 : decode cX9_init 242 = .ok (.newarray .int, 2) := by decide +kernel
theorem dX9_init_244 : decode cX9_init 244 = .ok (.putfield 86, 3) := by decide +kernel
theorem dX9_init_247 : decode cX9_init 247 = .ok (.iconst 0, 1) := by decide +kernel
theorem dX9_init_248 : decode cX9_init 248 = .ok (.istore_n 1, 1) := by decide +kernel
theorem dX9_init_249 : decode cX9_init 249 = .ok (.iload_n 1, 1) := by decide +kernel
theorem dX9_init_250 : decode cX9_init 250 = .ok (.bipush 17, 2) := by decide +kernel
theorem dX9_init_252 : decode cX9_init 252 = .ok (.if_icmp .ge 17, 3) := by decide +kernel
theorem dX9_init_255 : decode cX9_init 255 = .ok (.aload_n 0, 1) := by decide +kernel
theorem dX9_init_256 : decode cX9_init 256 = .ok (.getfield 16, 3) := by decide +kernel
theorem dX9_init_259 : decode cX9_init 259 = .ok (.iload_n 1, 1) := by decide +kernel
theorem dX9_init_260 : decode cX9_init 260 = .ok (.bipush 100, 2) := by decide +kernel
theorem dX9_init_262 : decode cX9_init 262 = .ok (.iastore, 1) := by decide +kernel
theorem dX9_init_263 : decode cX9_init 263 = .ok (.iinc 1 1, 3) := by decide +kernel
theorem dX9_init_266 : decode cX9_init 266 = .ok (.goto (-17), 3) := by decide +kernel
theorem dX9_init_269 : decode cX9_init 269 = .ok (.return_, 1) := by decide +kernel
theorem dX9_in_0 : decode cX9_in 0 = .ok (.iload_n 0, 1) := by decide +kernel
theorem dX9_in_1 : decode cX9_in 1 = .ok (.iload_n 1, 1) := by decide +kernel
theorem dX9_in_2 : decode cX9_in 2 = .ok (.if_icmp .lt 12, 3) := by decide +kernel
theorem dX9_in_5 : decode cX9_in 5 = .ok (.iload_n 0, 1) := by decide +kernel
theorem dX9_in_6 : decode cX9_in 6 = .ok (.iload_n 2, 1) := by decide +kernel
theorem dX9_in_7 : decode cX9_in 7 = .ok (.if_icmp .gt 7, 3) := by decide +kernel
theorem dX9_in_10 : decode cX9_in 10 = .ok (.iconst 1, 1) := by decide +kernel
theorem dX9_in_11 : decode cX9_in 11 = .ok (.goto 4, 3) := by decide +kernel
theorem dX9_in_14 : decode cX9_in 14 = .ok (.iconst 0, 1) := by decide +kernel
theorem dX9_in_15 : decode cX9_in 15 = .ok (.ireturn, 1) := by decide +kernel
theorem dX9_isPerson_0 : decode cX9_isPerson 0 = .ok (.iload_n 1, 1) := by decide +kernel
theorem dX9_isPerson_1 : decode cX9_isPerson 1 = .ok (.iconst 0, 1) := by decide +kernel
theorem dX9_isPerson_2 : decode cX9_isPerson 2 = .ok (.aload_n 0, 1) := by decide +kernel
theorem dX9_isPerson_3 : decode cX9_isPerson 3 = .ok (.getfield 89, 3) := by decide +kernel
theorem dX9_isPerson_6 : decode cX9_isPerson 6 = .ok (.iconst 1, 1) := by decide +kernel
theorem dX9_isPerson_7 : decode cX9_isPerson 7 = .ok (.isub, 1) := by decide +kernel
theorem dX9_isPerson_8 : decode cX9_isPerson 8 = .ok (.invokestatic 93, 3) := by decide +kernel
theorem dX9_isPerson_11 : decode cX9_isPerson 11 = .ok (.ireturn, 1) := by decide +kernel
theorem dX9_isPaper_0 : decode cX9_isPaper 0 = .ok (.iload_n 1, 1) := by decide +kernel
theorem dX9_isPaper_1 : decode cX9_isPaper 1 = .ok (.iconst 0, 1) := by decide +kernel
theorem dX9_isPaper_2 : decode cX9_isPaper 2 = .ok (.aload_n 0, 1) := by decide +kernel
theorem dX9_isPaper_3 : decode cX9_isPaper 3 = .ok (.getfield 97, 3) := by decide +kernel
theorem dX9_isPaper_6 : decode cX9_isPaper 6 = .ok (.iconst 1, 1) := by decide +kernel
theorem dX9_isPaper_7 : decode cX9_isPaper 7 = .ok (.isub, 1) := by decide +kernel
theorem dX9_isPaper_8 : decode cX9_isPaper 8 = .ok (.invokestatic 93, 3) := by decide +kernel
theorem dX9_isPaper_11 : decode cX9_isPaper 11 = .ok (.ireturn, 1) := by decide +kernel
theorem dX9_isYear_0 : decode cX9_isYear 0 = .ok (.iload_n 0, 1) := by decide +kernel
theorem dX9_isYear_1 : decode cX9_isYear 1 = .ok (.iconst 0, 1) := by decide +kernel
theorem dX9_isYear_2 : decode cX9_isYear 2 = .ok (.sipush 160, 3) := by decide +kernel
theorem dX9_isYear_5 : decode cX9_isYear 5 = .ok (.invokestatic 93, 3) := by decide +kernel
theorem dX9_isYear_8 : decode cX9_isYear 8 = .ok (.ireturn, 1) := by decide +kernel
theorem dX9_person_0 : decode cX9_person 0 = .ok (.iload_n 1, 1) := by decide +kernel
theorem dX9_person_1 : decode cX9_person 1 = .ok (.iconst 0, 1) := by decide +kernel
theorem dX9_person_2 : decode cX9_person 2 = .ok (.iconst 5, 1) := by decide +kernel
theorem dX9_person_3 : decode cX9_person 3 = .ok (.invokestatic 93, 3) := by decide +kernel
theorem dX9_person_6 : decode cX9_person 6 = .ok (.ifCond .eq 22, 3) := by decide +kernel
theorem dX9_person_9 : decode cX9_person 9 = .ok (.iload_n 2, 1) := by decide +kernel
theorem dX9_person_10 : decode cX9_person 10 = .ok (.iconst 0, 1) := by decide +kernel
theorem dX9_person_11 : decode cX9_person 11 = .ok (.bipush 9, 2) := by decide +kernel
theorem dX9_person_13 : decode cX9_person 13 = .ok (.invokestatic 93, 3) := by decide +kernel
theorem dX9_person_16 : decode cX9_person 16 = .ok (.ifCond .eq 12, 3) := by decide +kernel
theorem dX9_person_19 : decode cX9_person 19 = .ok (.iload_n 3, 1) := by decide +kernel
theorem dX9_person_20 : decode cX9_person 20 = .ok (.iconst 0, 1) := by decide +kernel
theorem dX9_person_21 : decode cX9_person 21 = .ok (.iconst 1, 1) := by decide +kernel
theorem dX9_person_22 : decode cX9_person 22 = .ok (.invokestatic 93, 3) := by decide +kernel
theorem dX9_person_25 : decode cX9_person 25 = .ok (.ifCond .ne 5, 3) := by decide +kernel
theorem dX9_person_28 : decode cX9_person 28 = .ok (.iconst (-1), 1) := by decide +kernel
theorem dX9_person_29 : decode cX9_person 29 = .ok (.ireturn, 1) := by decide +kernel
theorem dX9_person_30 : decode cX9_person 30 = .ok (.aload_n 0, 1) := by decide +kernel
theorem dX9_person_31 : decode cX9_person 31 = .ok (.getfield 89, 3) := by decide +kernel
theorem dX9_person_34 : decode cX9_person 34 = .ok (.bipush 10, 2) := by decide +kernel
theorem dX9_person_36 : decode cX9_person 36 = .ok (.if_icmp .ne 6, 3) := by decide +kernel
theorem dX9_person_39 : decode cX9_person 39 = .ok (.bipush (-2), 2) := by decide +kernel
theorem dX9_person_41 : decode cX9_person 41 = .ok (.ireturn, 1) := by decide +kernel
theorem dX9_person_42 : decode cX9_person 42 = .ok (.aload_n 0, 1) := by decide +kernel
theorem dX9_person_43 : decode cX9_person 43 = .ok (.getfield 7, 3) := by decide +kernel
theorem dX9_person_46 : decode cX9_person 46 = .ok (.iconst 4, 1) := by decide +kernel
theorem dX9_person_47 : decode cX9_person 47 = .ok (.aload_n 0, 1) := by decide +kernel
theorem dX9_person_48 : decode cX9_person 48 = .ok (.getfield 89, 3) := by decide +kernel
theorem dX9_person_51 : decode cX9_person 51 = .ok (.imul, 1) := by decide +kernel
theorem dX9_person_52 : decode cX9_person 52 = .ok (.iload_n 1, 1) := by decide +kernel
theorem dX9_person_53 : decode cX9_person 53 = .ok (.iastore, 1) := by decide +kernel
theorem dX9_person_54 : decode cX9_person 54 = .ok (.aload_n 0, 1) := by decide +kernel
theorem dX9_person_55 : decode cX9_person 55 = .ok (.getfield 7, 3) := by decide +kernel
theorem dX9_person_58 : decode cX9_person 58 = .ok (.iconst 4, 1) := by decide +kernel
theorem dX9_person_59 : decode cX9_person 59 = .ok (.aload_n 0, 1) := by decide +kernel
theorem dX9_person_60 : decode cX9_person 60 = .ok (.getfield 89, 3) := by decide +kernel
theorem dX9_person_63 : decode cX9_person 63 = .ok (.imul, 1) := by decide +kernel
theorem dX9_person_64 : decode cX9_person 64 = .ok (.iconst 1, 1) := by decide +kernel
theorem dX9_person_65 : decode cX9_person 65 = .ok (.iadd, 1) := by decide +kernel
theorem dX9_person_66 : decode cX9_person 66 = .ok (.iload_n 2, 1) := by decide +kernel
theorem dX9_person_67 : decode cX9_person 67 = .ok (.iastore, 1) := by decide +kernel
theorem dX9_person_68 : decode cX9_person 68 = .ok (.aload_n 0, 1) := by decide +kernel
theorem dX9_person_69 : decode cX9_person 69 = .ok (.getfield 7, 3) := by decide +kernel
theorem dX9_person_72 : decode cX9_person 72 = .ok (.iconst 4, 1) := by decide +kernel
theorem dX9_person_73 : decode cX9_person 73 = .ok (.aload_n 0, 1) := by decide +kernel
theorem dX9_person_74 : decode cX9_person 74 = .ok (.getfield 89, 3) := by decide +kernel
theorem dX9_person_77 : decode cX9_person 77 = .ok (.imul, 1) := by decide +kernel
theorem dX9_person_78 : decode cX9_person 78 = .ok (.iconst 2, 1) := by decide +kernel
theorem dX9_person_79 : decode cX9_person 79 = .ok (.iadd, 1) := by decide +kernel
theorem dX9_person_80 : decode cX9_person 80 = .ok (.iload_n 3, 1) := by decide +kernel
theorem dX9_person_81 : decode cX9_person 81 = .ok (.iastore, 1) := by decide +kernel
theorem dX9_person_82 : decode cX9_person 82 = .ok (.aload_n 0, 1) := by decide +kernel
theorem dX9_person_83 : decode cX9_person 83 = .ok (.getfield 7, 3) := by decide +kernel
theorem dX9_person_86 : decode cX9_person 86 = .ok (.iconst 4, 1) := by decide +kernel
theorem dX9_person_87 : decode cX9_person 87 = .ok (.aload_n 0, 1) := by decide +kernel
theorem dX9_person_88 : decode cX9_person 88 = .ok (.getfield 89, 3) := by decide +kernel
theorem dX9_person_91 : decode cX9_person 91 = .ok (.imul, 1) := by decide +kernel
theorem dX9_person_92 : decode cX9_person 92 = .ok (.iconst 3, 1) := by decide +kernel
theorem dX9_person_93 : decode cX9_person 93 = .ok (.iadd, 1) := by decide +kernel
theorem dX9_person_94 : decode cX9_person 94 = .ok (.bipush (-9), 2) := by decide +kernel
theorem dX9_person_96 : decode cX9_person 96 = .ok (.iastore, 1) := by decide +kernel
theorem dX9_person_97 : decode cX9_person 97 = .ok (.aload_n 0, 1) := by decide +kernel
theorem dX9_person_98 : decode cX9_person 98 = .ok (.dup, 1) := by decide +kernel
theorem dX9_person_99 : decode cX9_person 99 = .ok (.getfield 89, 3) := by decide +kernel
theorem dX9_person_102 : decode cX9_person 102 = .ok (.iconst 1, 1) := by decide +kernel
theorem dX9_person_103 : decode cX9_person 103 = .ok (.iadd, 1) := by decide +kernel
theorem dX9_person_104 : decode cX9_person 104 = .ok (.putfield 89, 3) := by decide +kernel
theorem dX9_person_107 : decode cX9_person 107 = .ok (.aload_n 0, 1) := by decide +kernel
theorem dX9_person_108 : decode cX9_person 108 = .ok (.getfield 89, 3) := by decide +kernel
theorem dX9_person_111 : decode cX9_person 111 = .ok (.iconst 1, 1) := by decide +kernel
theorem dX9_person_112 : decode cX9_person 112 = .ok (.isub, 1) := by decide +kernel
theorem dX9_person_113 : decode cX9_person 113 = .ok (.ireturn, 1) := by decide +kernel
theorem dX9_papersOf_0 : decode cX9_papersOf 0 = .ok (.iconst 0, 1) := by decide +kernel
theorem dX9_papersOf_1 : decode cX9_papersOf 1 = .ok (.istore_n 2, 1) := by decide +kernel
theorem dX9_papersOf_2 : decode cX9_papersOf 2 = .ok (.iconst 0, 1) := by decide +kernel
theorem dX9_papersOf_3 : decode cX9_papersOf 3 = .ok (.istore_n 3, 1) := by decide +kernel
theorem dX9_papersOf_4 : decode cX9_papersOf 4 = .ok (.iload_n 3, 1) := by decide +kernel
theorem dX9_papersOf_5 : decode cX9_papersOf 5 = .ok (.aload_n 0, 1) := by decide +kernel
theorem dX9_papersOf_6 : decode cX9_papersOf 6 = .ok (.getfield 97, 3) := by decide +kernel
theorem dX9_papersOf_9 : decode cX9_papersOf 9 = .ok (.if_icmp .ge 30, 3) := by decide +kernel
theorem dX9_papersOf_12 : decode cX9_papersOf 12 = .ok (.iload_n 2, 1) := by decide +kernel
theorem dX9_papersOf_13 : decode cX9_papersOf 13 = .ok (.aload_n 0, 1) := by decide +kernel
theorem dX9_papersOf_14 : decode cX9_papersOf 14 = .ok (.getfield 13, 3) := by decide +kernel
theorem dX9_papersOf_17 : decode cX9_papersOf 17 = .ok (.bipush 6, 2) := by decide +kernel
theorem dX9_papersOf_19 : decode cX9_papersOf 19 = .ok (.iload_n 3, 1) := by decide +kernel
theorem dX9_papersOf_20 : decode cX9_papersOf 20 = .ok (.imul, 1) := by decide +kernel
theorem dX9_papersOf_21 : decode cX9_papersOf 21 = .ok (.iaload, 1) := by decide +kernel
theorem dX9_papersOf_22 : decode cX9_papersOf 22 = .ok (.iload_n 1, 1) := by decide +kernel
theorem dX9_papersOf_23 : decode cX9_papersOf 23 = .ok (.if_icmp .ne 7, 3) := by decide +kernel
theorem dX9_papersOf_26 : decode cX9_papersOf 26 = .ok (.iconst 1, 1) := by decide +kernel
theorem dX9_papersOf_27 : decode cX9_papersOf 27 = .ok (.goto 4, 3) := by decide +kernel
theorem dX9_papersOf_30 : decode cX9_papersOf 30 = .ok (.iconst 0, 1) := by decide +kernel
theorem dX9_papersOf_31 : decode cX9_papersOf 31 = .ok (.iadd, 1) := by decide +kernel
theorem dX9_papersOf_32 : decode cX9_papersOf 32 = .ok (.istore_n 2, 1) := by decide +kernel
theorem dX9_papersOf_33 : decode cX9_papersOf 33 = .ok (.iinc 3 1, 3) := by decide +kernel
theorem dX9_papersOf_36 : decode cX9_papersOf 36 = .ok (.goto (-32), 3) := by decide +kernel
theorem dX9_papersOf_39 : decode cX9_papersOf 39 = .ok (.iload_n 2, 1) := by decide +kernel
theorem dX9_papersOf_40 : decode cX9_papersOf 40 = .ok (.ireturn, 1) := by decide +kernel
theorem dX9_seenOf_0 : decode cX9_seenOf 0 = .ok (.iconst 0, 1) := by decide +kernel
theorem dX9_seenOf_1 : decode cX9_seenOf 1 = .ok (.istore_n 2, 1) := by decide +kernel
theorem dX9_seenOf_2 : decode cX9_seenOf 2 = .ok (.iconst 0, 1) := by decide +kernel
theorem dX9_seenOf_3 : decode cX9_seenOf 3 = .ok (.istore_n 3, 1) := by decide +kernel
theorem dX9_seenOf_4 : decode cX9_seenOf 4 = .ok (.iload_n 3, 1) := by decide +kernel
theorem dX9_seenOf_5 : decode cX9_seenOf 5 = .ok (.aload_n 0, 1) := by decide +kernel
theorem dX9_seenOf_6 : decode cX9_seenOf 6 = .ok (.getfield 97, 3) := by decide +kernel
theorem dX9_seenOf_9 : decode cX9_seenOf 9 = .ok (.if_icmp .ge 81, 3) := by decide +kernel
theorem dX9_seenOf_12 : decode cX9_seenOf 12 = .ok (.aload_n 0, 1) := by decide +kernel
theorem dX9_seenOf_13 : decode cX9_seenOf 13 = .ok (.getfield 13, 3) := by decide +kernel
theorem dX9_seenOf_16 : decode cX9_seenOf 16 = .ok (.bipush 6, 2) := by decide +kernel
theorem dX9_seenOf_18 : decode cX9_seenOf 18 = .ok (.iload_n 3, 1) := by decide +kernel
theorem dX9_seenOf_19 : decode cX9_seenOf 19 = .ok (.imul, 1) := by decide +kernel
theorem dX9_seenOf_20 : decode cX9_seenOf 20 = .ok (.iaload, 1) := by decide +kernel
theorem dX9_seenOf_21 : decode cX9_seenOf 21 = .ok (.iload_n 1, 1) := by decide +kernel
theorem dX9_seenOf_22 : decode cX9_seenOf 22 = .ok (.if_icmp .ne 38, 3) := by decide +kernel
theorem dX9_seenOf_25 : decode cX9_seenOf 25 = .ok (.aload_n 0, 1) := by decide +kernel
theorem dX9_seenOf_26 : decode cX9_seenOf 26 = .ok (.getfield 13, 3) := by decide +kernel
theorem dX9_seenOf_29 : decode cX9_seenOf 29 = .ok (.bipush 6, 2) := by decide +kernel
theorem dX9_seenOf_31 : decode cX9_seenOf 31 = .ok (.iload_n 3, 1) := by decide +kernel
theorem dX9_seenOf_32 : decode cX9_seenOf 32 = .ok (.imul, 1) := by decide +kernel
theorem dX9_seenOf_33 : decode cX9_seenOf 33 = .ok (.iconst 1, 1) := by decide +kernel
theorem dX9_seenOf_34 : decode cX9_seenOf 34 = .ok (.iadd, 1) := by decide +kernel
theorem dX9_seenOf_35 : decode cX9_seenOf 35 = .ok (.iaload, 1) := by decide +kernel
theorem dX9_seenOf_36 : decode cX9_seenOf 36 = .ok (.bipush 6, 2) := by decide +kernel
theorem dX9_seenOf_38 : decode cX9_seenOf 38 = .ok (.if_icmp .eq 22, 3) := by decide +kernel
theorem dX9_seenOf_41 : decode cX9_seenOf 41 = .ok (.aload_n 0, 1) := by decide +kernel
theorem dX9_seenOf_42 : decode cX9_seenOf 42 = .ok (.getfield 13, 3) := by decide +kernel
theorem dX9_seenOf_45 : decode cX9_seenOf 45 = .ok (.bipush 6, 2) := by decide +kernel
theorem dX9_seenOf_47 : decode cX9_seenOf 47 = .ok (.iload_n 3, 1) := by decide +kernel
theorem dX9_seenOf_48 : decode cX9_seenOf 48 = .ok (.imul, 1) := by decide +kernel
theorem dX9_seenOf_49 : decode cX9_seenOf 49 = .ok (.iconst 2, 1) := by decide +kernel
theorem dX9_seenOf_50 : decode cX9_seenOf 50 = .ok (.iadd, 1) := by decide +kernel
theorem dX9_seenOf_51 : decode cX9_seenOf 51 = .ok (.iaload, 1) := by decide +kernel
theorem dX9_seenOf_52 : decode cX9_seenOf 52 = .ok (.iload_n 2, 1) := by decide +kernel
theorem dX9_seenOf_53 : decode cX9_seenOf 53 = .ok (.if_icmp .le 7, 3) := by decide +kernel
theorem dX9_seenOf_56 : decode cX9_seenOf 56 = .ok (.iconst 1, 1) := by decide +kernel
theorem dX9_seenOf_57 : decode cX9_seenOf 57 = .ok (.goto 4, 3) := by decide +kernel
theorem dX9_seenOf_60 : decode cX9_seenOf 60 = .ok (.iconst 0, 1) := by decide +kernel
theorem dX9_seenOf_61 : decode cX9_seenOf 61 = .ok (.istore 4, 2) := by decide +kernel
theorem dX9_seenOf_63 : decode cX9_seenOf 63 = .ok (.iload 4, 2) := by decide +kernel
theorem dX9_seenOf_65 : decode cX9_seenOf 65 = .ok (.ifCond .eq 17, 3) := by decide +kernel
theorem dX9_seenOf_68 : decode cX9_seenOf 68 = .ok (.aload_n 0, 1) := by decide +kernel
theorem dX9_seenOf_69 : decode cX9_seenOf 69 = .ok (.getfield 13, 3) := by decide +kernel
theorem dX9_seenOf_72 : decode cX9_seenOf 72 = .ok (.bipush 6, 2) := by decide +kernel
theorem dX9_seenOf_74 : decode cX9_seenOf 74 = .ok (.iload_n 3, 1) := by decide +kernel
theorem dX9_seenOf_75 : decode cX9_seenOf 75 = .ok (.imul, 1) := by decide +kernel
theorem dX9_seenOf_76 : decode cX9_seenOf 76 = .ok (.iconst 2, 1) := by decide +kernel
theorem dX9_seenOf_77 : decode cX9_seenOf 77 = .ok (.iadd, 1) := by decide +kernel
theorem dX9_seenOf_78 : decode cX9_seenOf 78 = .ok (.iaload, 1) := by decide +kernel
theorem dX9_seenOf_79 : decode cX9_seenOf 79 = .ok (.goto 4, 3) := by decide +kernel
theorem dX9_seenOf_82 : decode cX9_seenOf 82 = .ok (.iload_n 2, 1) := by decide +kernel
theorem dX9_seenOf_83 : decode cX9_seenOf 83 = .ok (.istore_n 2, 1) := by decide +kernel
theorem dX9_seenOf_84 : decode cX9_seenOf 84 = .ok (.iinc 3 1, 3) := by decide +kernel
theorem dX9_seenOf_87 : decode cX9_seenOf 87 = .ok (.goto (-83), 3) := by decide +kernel
theorem dX9_seenOf_90 : decode cX9_seenOf 90 = .ok (.iload_n 2, 1) := by decide +kernel
theorem dX9_seenOf_91 : decode cX9_seenOf 91 = .ok (.ireturn, 1) := by decide +kernel
theorem dX9_personOf_0 : decode cX9_personOf 0 = .ok (.aload_n 0, 1) := by decide +kernel
theorem dX9_personOf_1 : decode cX9_personOf 1 = .ok (.iload_n 1, 1) := by decide +kernel
theorem dX9_personOf_2 : decode cX9_personOf 2 = .ok (.invokevirtual 100, 3) := by decide +kernel
theorem dX9_personOf_5 : decode cX9_personOf 5 = .ok (.ifCond .eq 12, 3) := by decide +kernel
theorem dX9_personOf_8 : decode cX9_personOf 8 = .ok (.iload_n 2, 1) := by decide +kernel
theorem dX9_personOf_9 : decode cX9_personOf 9 = .ok (.iconst 0, 1) := by decide +kernel
theorem dX9_personOf_10 : decode cX9_personOf 10 = .ok (.iconst 5, 1) := by decide +kernel
theorem dX9_personOf_11 : decode cX9_personOf 11 = .ok (.invokestatic 93, 3) := by decide +kernel
theorem dX9_personOf_14 : decode cX9_personOf 14 = .ok (.ifCond .ne 5, 3) := by decide +kernel
theorem dX9_personOf_17 : decode cX9_personOf 17 = .ok (.iconst (-1), 1) := by decide +kernel
theorem dX9_personOf_18 : decode cX9_personOf 18 = .ok (.ireturn, 1) := by decide +kernel
theorem dX9_personOf_19 : decode cX9_personOf 19 = .ok (.iload_n 2, 1) := by decide +kernel
theorem dX9_personOf_20 : decode cX9_personOf 20 = .ok (.iconst 3, 1) := by decide +kernel
theorem dX9_personOf_21 : decode cX9_personOf 21 = .ok (.if_icmp .ge 16, 3) := by decide +kernel
theorem dX9_personOf_24 : decode cX9_personOf 24 = .ok (.aload_n 0, 1) := by decide +kernel
theorem dX9_personOf_25 : decode cX9_personOf 25 = .ok (.getfield 7, 3) := by decide +kernel
theorem dX9_personOf_28 : decode cX9_personOf 28 = .ok (.iconst 4, 1) := by decide +kernel
theorem dX9_personOf_29 : decode cX9_personOf 29 = .ok (.iload_n 1, 1) := by decide +kernel
theorem dX9_personOf_30 : decode cX9_personOf 30 = .ok (.imul, 1) := by decide +kernel
theorem dX9_personOf_31 : decode cX9_personOf 31 = .ok (.iload_n 2, 1) := by decide +kernel
theorem dX9_personOf_32 : decode cX9_personOf 32 = .ok (.iadd, 1) := by decide +kernel
theorem dX9_personOf_33 : decode cX9_personOf 33 = .ok (.iaload, 1) := by decide +kernel
theorem dX9_personOf_34 : decode cX9_personOf 34 = .ok (.goto 39, 3) := by decide +kernel
theorem dX9_personOf_37 : decode cX9_personOf 37 = .ok (.iload_n 2, 1) := by decide +kernel
theorem dX9_personOf_38 : decode cX9_personOf 38 = .ok (.iconst 3, 1) := by decide +kernel
theorem dX9_personOf_39 : decode cX9_personOf 39 = .ok (.if_icmp .ne 11, 3) := by decide +kernel
theorem dX9_personOf_42 : decode cX9_personOf 42 = .ok (.aload_n 0, 1) := by decide +kernel
theorem dX9_personOf_43 : decode cX9_personOf 43 = .ok (.iload_n 1, 1) := by decide +kernel
theorem dX9_personOf_44 : decode cX9_personOf 44 = .ok (.invokevirtual 104, 3) := by decide +kernel
theorem dX9_personOf_47 : decode cX9_personOf 47 = .ok (.goto 26, 3) := by decide +kernel
theorem dX9_personOf_50 : decode cX9_personOf 50 = .ok (.iload_n 2, 1) := by decide +kernel
theorem dX9_personOf_51 : decode cX9_personOf 51 = .ok (.iconst 4, 1) := by decide +kernel
theorem dX9_personOf_52 : decode cX9_personOf 52 = .ok (.if_icmp .ne 11, 3) := by decide +kernel
theorem dX9_personOf_55 : decode cX9_personOf 55 = .ok (.aload_n 0, 1) := by decide +kernel
theorem dX9_personOf_56 : decode cX9_personOf 56 = .ok (.iload_n 1, 1) := by decide +kernel
theorem dX9_personOf_57 : decode cX9_personOf 57 = .ok (.invokevirtual 108, 3) := by decide +kernel
theorem dX9_personOf_60 : decode cX9_personOf 60 = .ok (.goto 13, 3) := by decide +kernel
theorem dX9_personOf_63 : decode cX9_personOf 63 = .ok (.aload_n 0, 1) := by decide +kernel
theorem dX9_personOf_64 : decode cX9_personOf 64 = .ok (.getfield 7, 3) := by decide +kernel
theorem dX9_personOf_67 : decode cX9_personOf 67 = .ok (.iconst 4, 1) := by decide +kernel
theorem dX9_personOf_68 : decode cX9_personOf 68 = .ok (.iload_n 1, 1) := by decide +kernel
theorem dX9_personOf_69 : decode cX9_personOf 69 = .ok (.imul, 1) := by decide +kernel
theorem dX9_personOf_70 : decode cX9_personOf 70 = .ok (.iconst 3, 1) := by decide +kernel
theorem dX9_personOf_71 : decode cX9_personOf 71 = .ok (.iadd, 1) := by decide +kernel
theorem dX9_personOf_72 : decode cX9_personOf 72 = .ok (.iaload, 1) := by decide +kernel
theorem dX9_personOf_73 : decode cX9_personOf 73 = .ok (.ireturn, 1) := by decide +kernel
theorem dX9_paper_0 : decode cX9_paper 0 = .ok (.aload_n 0, 1) := by decide +kernel
theorem dX9_paper_1 : decode cX9_paper 1 = .ok (.iload_n 1, 1) := by decide +kernel
theorem dX9_paper_2 : decode cX9_paper 2 = .ok (.invokevirtual 100, 3) := by decide +kernel
theorem dX9_paper_5 : decode cX9_paper 5 = .ok (.ifCond .eq 53, 3) := by decide +kernel
theorem dX9_paper_8 : decode cX9_paper 8 = .ok (.iload_n 2, 1) := by decide +kernel
theorem dX9_paper_9 : decode cX9_paper 9 = .ok (.iconst 1, 1) := by decide +kernel
theorem dX9_paper_10 : decode cX9_paper 10 = .ok (.bipush 7, 2) := by decide +kernel
theorem dX9_paper_12 : decode cX9_paper 12 = .ok (.invokestatic 93, 3) := by decide +kernel
theorem dX9_paper_15 : decode cX9_paper 15 = .ok (.ifCond .eq 43, 3) := by decide +kernel
theorem dX9_paper_18 : decode cX9_paper 18 = .ok (.iload_n 3, 1) := by decide +kernel
theorem dX9_paper_19 : decode cX9_paper 19 = .ok (.invokestatic 111, 3) := by decide +kernel
theorem dX9_paper_22 : decode cX9_paper 22 = .ok (.ifCond .eq 36, 3) := by decide +kernel
theorem dX9_paper_25 : decode cX9_paper 25 = .ok (.iload 4, 2) := by decide +kernel
theorem dX9_paper_27 : decode cX9_paper 27 = .ok (.invokestatic 111, 3) := by decide +kernel
theorem dX9_paper_30 : decode cX9_paper 30 = .ok (.ifCond .eq 28, 3) := by decide +kernel
theorem dX9_paper_33 : decode cX9_paper 33 = .ok (.iload 5, 2) := by decide +kernel
theorem dX9_paper_35 : decode cX9_paper 35 = .ok (.iconst 0, 1) := by decide +kernel
theorem dX9_paper_36 : decode cX9_paper 36 = .ok (.bipush 99, 2) := by decide +kernel
theorem dX9_paper_38 : decode cX9_paper 38 = .ok (.invokestatic 93, 3) := by decide +kernel
theorem dX9_paper_41 : decode cX9_paper 41 = .ok (.ifCond .eq 17, 3) := by decide +kernel
theorem dX9_paper_44 : decode cX9_paper 44 = .ok (.iload_n 2, 1) := by decide +kernel
theorem dX9_paper_45 : decode cX9_paper 45 = .ok (.iconst 5, 1) := by decide +kernel
theorem dX9_paper_46 : decode cX9_paper 46 = .ok (.if_icmp .ne 14, 3) := by decide +kernel
theorem dX9_paper_49 : decode cX9_paper 49 = .ok (.aload_n 0, 1) := by decide +kernel
theorem dX9_paper_50 : decode cX9_paper 50 = .ok (.iload 6, 2) := by decide +kernel
theorem dX9_paper_52 : decode cX9_paper 52 = .ok (.invokevirtual 114, 3) := by decide +kernel
theorem dX9_paper_55 : decode cX9_paper 55 = .ok (.ifCond .ne 5, 3) := by decide +kernel
theorem dX9_paper_58 : decode cX9_paper 58 = .ok (.iconst (-1), 1) := by decide +kernel
theorem dX9_paper_59 : decode cX9_paper 59 = .ok (.ireturn, 1) := by decide +kernel
theorem dX9_paper_60 : decode cX9_paper 60 = .ok (.aload_n 0, 1) := by decide +kernel
theorem dX9_paper_61 : decode cX9_paper 61 = .ok (.getfield 97, 3) := by decide +kernel
theorem dX9_paper_64 : decode cX9_paper 64 = .ok (.bipush 30, 2) := by decide +kernel
theorem dX9_paper_66 : decode cX9_paper 66 = .ok (.if_icmp .eq 13, 3) := by decide +kernel
theorem dX9_paper_69 : decode cX9_paper 69 = .ok (.aload_n 0, 1) := by decide +kernel
theorem dX9_paper_70 : decode cX9_paper 70 = .ok (.iload_n 1, 1) := by decide +kernel
theorem dX9_paper_71 : decode cX9_paper 71 = .ok (.invokevirtual 108, 3) := by decide +kernel
theorem dX9_paper_74 : decode cX9_paper 74 = .ok (.bipush 6, 2) := by decide +kernel
theorem dX9_paper_76 : decode cX9_paper 76 = .ok (.if_icmp .ne 6, 3) := by decide +kernel
theorem dX9_paper_79 : decode cX9_paper 79 = .ok (.bipush (-2), 2) := by decide +kernel
theorem dX9_paper_81 : decode cX9_paper 81 = .ok (.ireturn, 1) := by decide +kernel
theorem dX9_paper_82 : decode cX9_paper 82 = .ok (.bipush 6, 2) := by decide +kernel
theorem dX9_paper_84 : decode cX9_paper 84 = .ok (.aload_n 0, 1) := by decide +kernel
theorem dX9_paper_85 : decode cX9_paper 85 = .ok (.getfield 97, 3) := by decide +kernel
theorem dX9_paper_88 : decode cX9_paper 88 = .ok (.imul, 1) := by decide +kernel
theorem dX9_paper_89 : decode cX9_paper 89 = .ok (.istore 7, 2) := by decide +kernel
theorem dX9_paper_91 : decode cX9_paper 91 = .ok (.aload_n 0, 1) := by decide +kernel
theorem dX9_paper_92 : decode cX9_paper 92 = .ok (.getfield 13, 3) := by decide +kernel
theorem dX9_paper_95 : decode cX9_paper 95 = .ok (.iload 7, 2) := by decide +kernel
theorem dX9_paper_97 : decode cX9_paper 97 = .ok (.iload_n 1, 1) := by decide +kernel
theorem dX9_paper_98 : decode cX9_paper 98 = .ok (.iastore, 1) := by decide +kernel
theorem dX9_paper_99 : decode cX9_paper 99 = .ok (.aload_n 0, 1) := by decide +kernel
theorem dX9_paper_100 : decode cX9_paper 100 = .ok (.getfield 13, 3) := by decide +kernel
theorem dX9_paper_103 : decode cX9_paper 103 = .ok (.iload 7, 2) := by decide +kernel
theorem dX9_paper_105 : decode cX9_paper 105 = .ok (.iconst 1, 1) := by decide +kernel
theorem dX9_paper_106 : decode cX9_paper 106 = .ok (.iadd, 1) := by decide +kernel
theorem dX9_paper_107 : decode cX9_paper 107 = .ok (.iload_n 2, 1) := by decide +kernel
theorem dX9_paper_108 : decode cX9_paper 108 = .ok (.iastore, 1) := by decide +kernel
theorem dX9_paper_109 : decode cX9_paper 109 = .ok (.aload_n 0, 1) := by decide +kernel
theorem dX9_paper_110 : decode cX9_paper 110 = .ok (.getfield 13, 3) := by decide +kernel
theorem dX9_paper_113 : decode cX9_paper 113 = .ok (.iload 7, 2) := by decide +kernel
theorem dX9_paper_115 : decode cX9_paper 115 = .ok (.iconst 2, 1) := by decide +kernel
theorem dX9_paper_116 : decode cX9_paper 116 = .ok (.iadd, 1) := by decide +kernel
theorem dX9_paper_117 : decode cX9_paper 117 = .ok (.iload_n 3, 1) := by decide +kernel
theorem dX9_paper_118 : decode cX9_paper 118 = .ok (.iastore, 1) := by decide +kernel
theorem dX9_paper_119 : decode cX9_paper 119 = .ok (.aload_n 0, 1) := by decide +kernel
theorem dX9_paper_120 : decode cX9_paper 120 = .ok (.getfield 13, 3) := by decide +kernel
theorem dX9_paper_123 : decode cX9_paper 123 = .ok (.iload 7, 2) := by decide +kernel
theorem dX9_paper_125 : decode cX9_paper 125 = .ok (.iconst 3, 1) := by decide +kernel
theorem dX9_paper_126 : decode cX9_paper 126 = .ok (.iadd, 1) := by decide +kernel
theorem dX9_paper_127 : decode cX9_paper 127 = .ok (.iload 4, 2) := by decide +kernel
theorem dX9_paper_129 : decode cX9_paper 129 = .ok (.iastore, 1) := by decide +kernel
theorem dX9_paper_130 : decode cX9_paper 130 = .ok (.aload_n 0, 1) := by decide +kernel
theorem dX9_paper_131 : decode cX9_paper 131 = .ok (.getfield 13, 3) := by decide +kernel
theorem dX9_paper_134 : decode cX9_paper 134 = .ok (.iload 7, 2) := by decide +kernel
theorem dX9_paper_136 : decode cX9_paper 136 = .ok (.iconst 4, 1) := by decide +kernel
theorem dX9_paper_137 : decode cX9_paper 137 = .ok (.iadd, 1) := by decide +kernel
theorem dX9_paper_138 : decode cX9_paper 138 = .ok (.iload 5, 2) := by decide +kernel
theorem dX9_paper_140 : decode cX9_paper 140 = .ok (.iastore, 1) := by decide +kernel
theorem dX9_paper_141 : decode cX9_paper 141 = .ok (.aload_n 0, 1) := by decide +kernel
theorem dX9_paper_142 : decode cX9_paper 142 = .ok (.getfield 13, 3) := by decide +kernel
theorem dX9_paper_145 : decode cX9_paper 145 = .ok (.iload 7, 2) := by decide +kernel
theorem dX9_paper_147 : decode cX9_paper 147 = .ok (.iconst 5, 1) := by decide +kernel
theorem dX9_paper_148 : decode cX9_paper 148 = .ok (.iadd, 1) := by decide +kernel
theorem dX9_paper_149 : decode cX9_paper 149 = .ok (.iload_n 2, 1) := by decide +kernel
theorem dX9_paper_150 : decode cX9_paper 150 = .ok (.iconst 5, 1) := by decide +kernel
theorem dX9_paper_151 : decode cX9_paper 151 = .ok (.if_icmp .ne 8, 3) := by decide +kernel
theorem dX9_paper_154 : decode cX9_paper 154 = .ok (.iload 6, 2) := by decide +kernel
theorem dX9_paper_156 : decode cX9_paper 156 = .ok (.goto 5, 3) := by decide +kernel
theorem dX9_paper_159 : decode cX9_paper 159 = .ok (.bipush (-9), 2) := by decide +kernel
theorem dX9_paper_161 : decode cX9_paper 161 = .ok (.iastore, 1) := by decide +kernel
theorem dX9_paper_162 : decode cX9_paper 162 = .ok (.aload_n 0, 1) := by decide +kernel
theorem dX9_paper_163 : decode cX9_paper 163 = .ok (.dup, 1) := by decide +kernel
theorem dX9_paper_164 : decode cX9_paper 164 = .ok (.getfield 97, 3) := by decide +kernel
theorem dX9_paper_167 : decode cX9_paper 167 = .ok (.iconst 1, 1) := by decide +kernel
theorem dX9_paper_168 : decode cX9_paper 168 = .ok (.iadd, 1) := by decide +kernel
theorem dX9_paper_169 : decode cX9_paper 169 = .ok (.putfield 97, 3) := by decide +kernel
theorem dX9_paper_172 : decode cX9_paper 172 = .ok (.aload_n 0, 1) := by decide +kernel
theorem dX9_paper_173 : decode cX9_paper 173 = .ok (.getfield 97, 3) := by decide +kernel
theorem dX9_paper_176 : decode cX9_paper 176 = .ok (.iconst 1, 1) := by decide +kernel
theorem dX9_paper_177 : decode cX9_paper 177 = .ok (.isub, 1) := by decide +kernel
theorem dX9_paper_178 : decode cX9_paper 178 = .ok (.ireturn, 1) := by decide +kernel
theorem dX9_paperOf_0 : decode cX9_paperOf 0 = .ok (.aload_n 0, 1) := by decide +kernel
theorem dX9_paperOf_1 : decode cX9_paperOf 1 = .ok (.iload_n 1, 1) := by decide +kernel
theorem dX9_paperOf_2 : decode cX9_paperOf 2 = .ok (.invokevirtual 114, 3) := by decide +kernel
theorem dX9_paperOf_5 : decode cX9_paperOf 5 = .ok (.ifCond .eq 26, 3) := by decide +kernel
theorem dX9_paperOf_8 : decode cX9_paperOf 8 = .ok (.iload_n 2, 1) := by decide +kernel
theorem dX9_paperOf_9 : decode cX9_paperOf 9 = .ok (.iconst 0, 1) := by decide +kernel
theorem dX9_paperOf_10 : decode cX9_paperOf 10 = .ok (.iconst 5, 1) := by decide +kernel
theorem dX9_paperOf_11 : decode cX9_paperOf 11 = .ok (.invokestatic 93, 3) := by decide +kernel
theorem dX9_paperOf_14 : decode cX9_paperOf 14 = .ok (.ifCond .eq 17, 3) := by decide +kernel
theorem dX9_paperOf_17 : decode cX9_paperOf 17 = .ok (.aload_n 0, 1) := by decide +kernel
theorem dX9_paperOf_18 : decode cX9_paperOf 18 = .ok (.getfield 13, 3) := by decide +kernel
theorem dX9_paperOf_21 : decode cX9_paperOf 21 = .ok (.bipush 6, 2) := by decide +kernel
theorem dX9_paperOf_23 : decode cX9_paperOf 23 = .ok (.iload_n 1, 1) := by decide +kernel
theorem dX9_paperOf_24 : decode cX9_paperOf 24 = .ok (.imul, 1) := by decide +kernel
theorem dX9_paperOf_25 : decode cX9_paperOf 25 = .ok (.iload_n 2, 1) := by decide +kernel
theorem dX9_paperOf_26 : decode cX9_paperOf 26 = .ok (.iadd, 1) := by decide +kernel
theorem dX9_paperOf_27 : decode cX9_paperOf 27 = .ok (.iaload, 1) := by decide +kernel
theorem dX9_paperOf_28 : decode cX9_paperOf 28 = .ok (.goto 4, 3) := by decide +kernel
theorem dX9_paperOf_31 : decode cX9_paperOf 31 = .ok (.iconst (-1), 1) := by decide +kernel
theorem dX9_paperOf_32 : decode cX9_paperOf 32 = .ok (.ireturn, 1) := by decide +kernel
theorem dX9_correct_0 : decode cX9_correct 0 = .ok (.aload_n 0, 1) := by decide +kernel
theorem dX9_correct_1 : decode cX9_correct 1 = .ok (.iload_n 1, 1) := by decide +kernel
theorem dX9_correct_2 : decode cX9_correct 2 = .ok (.invokevirtual 114, 3) := by decide +kernel
theorem dX9_correct_5 : decode cX9_correct 5 = .ok (.ifCond .eq 10, 3) := by decide +kernel
theorem dX9_correct_8 : decode cX9_correct 8 = .ok (.iload_n 2, 1) := by decide +kernel
theorem dX9_correct_9 : decode cX9_correct 9 = .ok (.invokestatic 111, 3) := by decide +kernel
theorem dX9_correct_12 : decode cX9_correct 12 = .ok (.ifCond .ne 5, 3) := by decide +kernel
theorem dX9_correct_15 : decode cX9_correct 15 = .ok (.iconst (-1), 1) := by decide +kernel
theorem dX9_correct_16 : decode cX9_correct 16 = .ok (.ireturn, 1) := by decide +kernel
theorem dX9_correct_17 : decode cX9_correct 17 = .ok (.aload_n 0, 1) := by decide +kernel
theorem dX9_correct_18 : decode cX9_correct 18 = .ok (.getfield 13, 3) := by decide +kernel
theorem dX9_correct_21 : decode cX9_correct 21 = .ok (.bipush 6, 2) := by decide +kernel
theorem dX9_correct_23 : decode cX9_correct 23 = .ok (.iload_n 1, 1) := by decide +kernel
theorem dX9_correct_24 : decode cX9_correct 24 = .ok (.imul, 1) := by decide +kernel
theorem dX9_correct_25 : decode cX9_correct 25 = .ok (.iconst 3, 1) := by decide +kernel
theorem dX9_correct_26 : decode cX9_correct 26 = .ok (.iadd, 1) := by decide +kernel
theorem dX9_correct_27 : decode cX9_correct 27 = .ok (.iaload, 1) := by decide +kernel
theorem dX9_correct_28 : decode cX9_correct 28 = .ok (.istore_n 3, 1) := by decide +kernel
theorem dX9_correct_29 : decode cX9_correct 29 = .ok (.aload_n 0, 1) := by decide +kernel
theorem dX9_correct_30 : decode cX9_correct 30 = .ok (.getfield 13, 3) := by decide +kernel
theorem dX9_correct_33 : decode cX9_correct 33 = .ok (.bipush 6, 2) := by decide +kernel
theorem dX9_correct_35 : decode cX9_correct 35 = .ok (.iload_n 1, 1) := by decide +kernel
theorem dX9_correct_36 : decode cX9_correct 36 = .ok (.imul, 1) := by decide +kernel
theorem dX9_correct_37 : decode cX9_correct 37 = .ok (.iconst 3, 1) := by decide +kernel
theorem dX9_correct_38 : decode cX9_correct 38 = .ok (.iadd, 1) := by decide +kernel
theorem dX9_correct_39 : decode cX9_correct 39 = .ok (.iload_n 2, 1) := by decide +kernel
theorem dX9_correct_40 : decode cX9_correct 40 = .ok (.iastore, 1) := by decide +kernel
theorem dX9_correct_41 : decode cX9_correct 41 = .ok (.iload_n 3, 1) := by decide +kernel
theorem dX9_correct_42 : decode cX9_correct 42 = .ok (.ireturn, 1) := by decide +kernel
theorem dX9_unlike_0 : decode cX9_unlike 0 = .ok (.iload_n 0, 1) := by decide +kernel
theorem dX9_unlike_1 : decode cX9_unlike 1 = .ok (.bipush 100, 2) := by decide +kernel
theorem dX9_unlike_3 : decode cX9_unlike 3 = .ok (.idiv, 1) := by decide +kernel
theorem dX9_unlike_4 : decode cX9_unlike 4 = .ok (.iload_n 1, 1) := by decide +kernel
theorem dX9_unlike_5 : decode cX9_unlike 5 = .ok (.bipush 100, 2) := by decide +kernel
theorem dX9_unlike_7 : decode cX9_unlike 7 = .ok (.idiv, 1) := by decide +kernel
theorem dX9_unlike_8 : decode cX9_unlike 8 = .ok (.if_icmp .ne 7, 3) := by decide +kernel
theorem dX9_unlike_11 : decode cX9_unlike 11 = .ok (.iconst 0, 1) := by decide +kernel
theorem dX9_unlike_12 : decode cX9_unlike 12 = .ok (.goto 4, 3) := by decide +kernel
theorem dX9_unlike_15 : decode cX9_unlike 15 = .ok (.iconst 1, 1) := by decide +kernel
theorem dX9_unlike_16 : decode cX9_unlike 16 = .ok (.iload_n 0, 1) := by decide +kernel
theorem dX9_unlike_17 : decode cX9_unlike 17 = .ok (.bipush 10, 2) := by decide +kernel
theorem dX9_unlike_19 : decode cX9_unlike 19 = .ok (.idiv, 1) := by decide +kernel
theorem dX9_unlike_20 : decode cX9_unlike 20 = .ok (.bipush 10, 2) := by decide +kernel
theorem dX9_unlike_22 : decode cX9_unlike 22 = .ok (.irem, 1) := by decide +kernel
theorem dX9_unlike_23 : decode cX9_unlike 23 = .ok (.iload_n 1, 1) := by decide +kernel
theorem dX9_unlike_24 : decode cX9_unlike 24 = .ok (.bipush 10, 2) := by decide +kernel
theorem dX9_unlike_26 : decode cX9_unlike 26 = .ok (.idiv, 1) := by decide +kernel
theorem dX9_unlike_27 : decode cX9_unlike 27 = .ok (.bipush 10, 2) := by decide +kernel
theorem dX9_unlike_29 : decode cX9_unlike 29 = .ok (.irem, 1) := by decide +kernel
theorem dX9_unlike_30 : decode cX9_unlike 30 = .ok (.if_icmp .ne 7, 3) := by decide +kernel
theorem dX9_unlike_33 : decode cX9_unlike 33 = .ok (.iconst 0, 1) := by decide +kernel
theorem dX9_unlike_34 : decode cX9_unlike 34 = .ok (.goto 4, 3) := by decide +kernel
theorem dX9_unlike_37 : decode cX9_unlike 37 = .ok (.iconst 1, 1) := by decide +kernel
theorem dX9_unlike_38 : decode cX9_unlike 38 = .ok (.iadd, 1) := by decide +kernel
theorem dX9_unlike_39 : decode cX9_unlike 39 = .ok (.iload_n 0, 1) := by decide +kernel
theorem dX9_unlike_40 : decode cX9_unlike 40 = .ok (.bipush 10, 2) := by decide +kernel
theorem dX9_unlike_42 : decode cX9_unlike 42 = .ok (.irem, 1) := by decide +kernel
theorem dX9_unlike_43 : decode cX9_unlike 43 = .ok (.iload_n 1, 1) := by decide +kernel
theorem dX9_unlike_44 : decode cX9_unlike 44 = .ok (.bipush 10, 2) := by decide +kernel
theorem dX9_unlike_46 : decode cX9_unlike 46 = .ok (.irem, 1) := by decide +kernel
theorem dX9_unlike_47 : decode cX9_unlike 47 = .ok (.if_icmp .ne 7, 3) := by decide +kernel
theorem dX9_unlike_50 : decode cX9_unlike 50 = .ok (.iconst 0, 1) := by decide +kernel
theorem dX9_unlike_51 : decode cX9_unlike 51 = .ok (.goto 4, 3) := by decide +kernel
theorem dX9_unlike_54 : decode cX9_unlike 54 = .ok (.iconst 1, 1) := by decide +kernel
theorem dX9_unlike_55 : decode cX9_unlike 55 = .ok (.iadd, 1) := by decide +kernel
theorem dX9_unlike_56 : decode cX9_unlike 56 = .ok (.ireturn, 1) := by decide +kernel
theorem dX9_spans_0 : decode cX9_spans 0 = .ok (.aload_n 0, 1) := by decide +kernel
theorem dX9_spans_1 : decode cX9_spans 1 = .ok (.getfield 13, 3) := by decide +kernel
theorem dX9_spans_4 : decode cX9_spans 4 = .ok (.bipush 6, 2) := by decide +kernel
theorem dX9_spans_6 : decode cX9_spans 6 = .ok (.iload_n 1, 1) := by decide +kernel
theorem dX9_spans_7 : decode cX9_spans 7 = .ok (.imul, 1) := by decide +kernel
theorem dX9_spans_8 : decode cX9_spans 8 = .ok (.iconst 2, 1) := by decide +kernel
theorem dX9_spans_9 : decode cX9_spans 9 = .ok (.iadd, 1) := by decide +kernel
theorem dX9_spans_10 : decode cX9_spans 10 = .ok (.iaload, 1) := by decide +kernel
theorem dX9_spans_11 : decode cX9_spans 11 = .ok (.istore_n 3, 1) := by decide +kernel
theorem dX9_spans_12 : decode cX9_spans 12 = .ok (.aload_n 0, 1) := by decide +kernel
theorem dX9_spans_13 : decode cX9_spans 13 = .ok (.getfield 13, 3) := by decide +kernel
theorem dX9_spans_16 : decode cX9_spans 16 = .ok (.bipush 6, 2) := by decide +kernel
theorem dX9_spans_18 : decode cX9_spans 18 = .ok (.iload_n 1, 1) := by decide +kernel
theorem dX9_spans_19 : decode cX9_spans 19 = .ok (.imul, 1) := by decide +kernel
theorem dX9_spans_20 : decode cX9_spans 20 = .ok (.iconst 3, 1) := by decide +kernel
theorem dX9_spans_21 : decode cX9_spans 21 = .ok (.iadd, 1) := by decide +kernel
theorem dX9_spans_22 : decode cX9_spans 22 = .ok (.iaload, 1) := by decide +kernel
theorem dX9_spans_23 : decode cX9_spans 23 = .ok (.istore 4, 2) := by decide +kernel
theorem dX9_spans_25 : decode cX9_spans 25 = .ok (.iload_n 3, 1) := by decide +kernel
theorem dX9_spans_26 : decode cX9_spans 26 = .ok (.iload 4, 2) := by decide +kernel
theorem dX9_spans_28 : decode cX9_spans 28 = .ok (.isub, 1) := by decide +kernel
theorem dX9_spans_29 : decode cX9_spans 29 = .ok (.istore 5, 2) := by decide +kernel
theorem dX9_spans_31 : decode cX9_spans 31 = .ok (.iload_n 2, 1) := by decide +kernel
theorem dX9_spans_32 : decode cX9_spans 32 = .ok (.iload_n 3, 1) := by decide +kernel
theorem dX9_spans_33 : decode cX9_spans 33 = .ok (.if_icmp .le 5, 3) := by decide +kernel
theorem dX9_spans_36 : decode cX9_spans 36 = .ok (.iconst 0, 1) := by decide +kernel
theorem dX9_spans_37 : decode cX9_spans 37 = .ok (.ireturn, 1) := by decide +kernel
theorem dX9_spans_38 : decode cX9_spans 38 = .ok (.aload_n 0, 1) := by decide +kernel
theorem dX9_spans_39 : decode cX9_spans 39 = .ok (.getfield 13, 3) := by decide +kernel
theorem dX9_spans_42 : decode cX9_spans 42 = .ok (.bipush 6, 2) := by decide +kernel
theorem dX9_spans_44 : decode cX9_spans 44 = .ok (.iload_n 1, 1) := by decide +kernel
theorem dX9_spans_45 : decode cX9_spans 45 = .ok (.imul, 1) := by decide +kernel
theorem dX9_spans_46 : decode cX9_spans 46 = .ok (.iconst 1, 1) := by decide +kernel
theorem dX9_spans_47 : decode cX9_spans 47 = .ok (.iadd, 1) := by decide +kernel
theorem dX9_spans_48 : decode cX9_spans 48 = .ok (.iaload, 1) := by decide +kernel
theorem dX9_spans_49 : decode cX9_spans 49 = .ok (.tableswitch 146 1 6 #[39, 51, 64, 107, 118, 134], 39) := by decide +kernel
theorem dX9_spans_88 : decode cX9_spans 88 = .ok (.iload_n 2, 1) := by decide +kernel
theorem dX9_spans_89 : decode cX9_spans 89 = .ok (.iload 4, 2) := by decide +kernel
theorem dX9_spans_91 : decode cX9_spans 91 = .ok (.if_icmp .ne 7, 3) := by decide +kernel
theorem dX9_spans_94 : decode cX9_spans 94 = .ok (.iconst 1, 1) := by decide +kernel
theorem dX9_spans_95 : decode cX9_spans 95 = .ok (.goto 4, 3) := by decide +kernel
theorem dX9_spans_98 : decode cX9_spans 98 = .ok (.iconst 0, 1) := by decide +kernel
theorem dX9_spans_99 : decode cX9_spans 99 = .ok (.ireturn, 1) := by decide +kernel
theorem dX9_spans_100 : decode cX9_spans 100 = .ok (.iload_n 2, 1) := by decide +kernel
theorem dX9_spans_101 : decode cX9_spans 101 = .ok (.iload 4, 2) := by decide +kernel
theorem dX9_spans_103 : decode cX9_spans 103 = .ok (.iconst 1, 1) := by decide +kernel
theorem dX9_spans_104 : decode cX9_spans 104 = .ok (.isub, 1) := by decide +kernel
theorem dX9_spans_105 : decode cX9_spans 105 = .ok (.iload 4, 2) := by decide +kernel
theorem dX9_spans_107 : decode cX9_spans 107 = .ok (.iconst 1, 1) := by decide +kernel
theorem dX9_spans_108 : decode cX9_spans 108 = .ok (.iadd, 1) := by decide +kernel
theorem dX9_spans_109 : decode cX9_spans 109 = .ok (.invokestatic 93, 3) := by decide +kernel
theorem dX9_spans_112 : decode cX9_spans 112 = .ok (.ireturn, 1) := by decide +kernel
theorem dX9_spans_113 : decode cX9_spans 113 = .ok (.iload 4, 2) := by decide +kernel
theorem dX9_spans_115 : decode cX9_spans 115 = .ok (.bipush 10, 2) := by decide +kernel
theorem dX9_spans_117 : decode cX9_spans 117 = .ok (.irem, 1) := by decide +kernel
theorem dX9_spans_118 : decode cX9_spans 118 = .ok (.ifCond .ne 7, 3) := by decide +kernel
theorem dX9_spans_121 : decode cX9_spans 121 = .ok (.iconst 5, 1) := by decide +kernel
theorem dX9_spans_122 : decode cX9_spans 122 = .ok (.goto 17, 3) := by decide +kernel
theorem dX9_spans_125 : decode cX9_spans 125 = .ok (.iload 4, 2) := by decide +kernel
theorem dX9_spans_127 : decode cX9_spans 127 = .ok (.bipush 10, 2) := by decide +kernel
theorem dX9_spans_129 : decode cX9_spans 129 = .ok (.irem, 1) := by decide +kernel
theorem dX9_spans_130 : decode cX9_spans 130 = .ok (.iconst 5, 1) := by decide +kernel
theorem dX9_spans_131 : decode cX9_spans 131 = .ok (.if_icmp .ne 7, 3) := by decide +kernel
theorem dX9_spans_134 : decode cX9_spans 134 = .ok (.iconst 2, 1) := by decide +kernel
theorem dX9_spans_135 : decode cX9_spans 135 = .ok (.goto 4, 3) := by decide +kernel
theorem dX9_spans_138 : decode cX9_spans 138 = .ok (.iconst 1, 1) := by decide +kernel
theorem dX9_spans_139 : decode cX9_spans 139 = .ok (.istore 6, 2) := by decide +kernel
theorem dX9_spans_141 : decode cX9_spans 141 = .ok (.iload_n 2, 1) := by decide +kernel
theorem dX9_spans_142 : decode cX9_spans 142 = .ok (.iload 5, 2) := by decide +kernel
theorem dX9_spans_144 : decode cX9_spans 144 = .ok (.iload 6, 2) := by decide +kernel
theorem dX9_spans_146 : decode cX9_spans 146 = .ok (.isub, 1) := by decide +kernel
theorem dX9_spans_147 : decode cX9_spans 147 = .ok (.iload 5, 2) := by decide +kernel
theorem dX9_spans_149 : decode cX9_spans 149 = .ok (.iload 6, 2) := by decide +kernel
theorem dX9_spans_151 : decode cX9_spans 151 = .ok (.iadd, 1) := by decide +kernel
theorem dX9_spans_152 : decode cX9_spans 152 = .ok (.invokestatic 93, 3) := by decide +kernel
theorem dX9_spans_155 : decode cX9_spans 155 = .ok (.ireturn, 1) := by decide +kernel
theorem dX9_spans_156 : decode cX9_spans 156 = .ok (.iload_n 2, 1) := by decide +kernel
theorem dX9_spans_157 : decode cX9_spans 157 = .ok (.iload 5, 2) := by decide +kernel
theorem dX9_spans_159 : decode cX9_spans 159 = .ok (.iconst 1, 1) := by decide +kernel
theorem dX9_spans_160 : decode cX9_spans 160 = .ok (.isub, 1) := by decide +kernel
theorem dX9_spans_161 : decode cX9_spans 161 = .ok (.iload 5, 2) := by decide +kernel
theorem dX9_spans_163 : decode cX9_spans 163 = .ok (.invokestatic 93, 3) := by decide +kernel
theorem dX9_spans_166 : decode cX9_spans 166 = .ok (.ireturn, 1) := by decide +kernel
theorem dX9_spans_167 : decode cX9_spans 167 = .ok (.iload_n 2, 1) := by decide +kernel
theorem dX9_spans_168 : decode cX9_spans 168 = .ok (.iload 4, 2) := by decide +kernel
theorem dX9_spans_170 : decode cX9_spans 170 = .ok (.invokestatic 117, 3) := by decide +kernel
theorem dX9_spans_173 : decode cX9_spans 173 = .ok (.iconst 1, 1) := by decide +kernel
theorem dX9_spans_174 : decode cX9_spans 174 = .ok (.if_icmp .gt 7, 3) := by decide +kernel
theorem dX9_spans_177 : decode cX9_spans 177 = .ok (.iconst 1, 1) := by decide +kernel
theorem dX9_spans_178 : decode cX9_spans 178 = .ok (.goto 4, 3) := by decide +kernel
theorem dX9_spans_181 : decode cX9_spans 181 = .ok (.iconst 0, 1) := by decide +kernel
theorem dX9_spans_182 : decode cX9_spans 182 = .ok (.ireturn, 1) := by decide +kernel
theorem dX9_spans_183 : decode cX9_spans 183 = .ok (.iload_n 2, 1) := by decide +kernel
theorem dX9_spans_184 : decode cX9_spans 184 = .ok (.iload 5, 2) := by decide +kernel
theorem dX9_spans_186 : decode cX9_spans 186 = .ok (.if_icmp .gt 7, 3) := by decide +kernel
theorem dX9_spans_189 : decode cX9_spans 189 = .ok (.iconst 1, 1) := by decide +kernel
theorem dX9_spans_190 : decode cX9_spans 190 = .ok (.goto 4, 3) := by decide +kernel
theorem dX9_spans_193 : decode cX9_spans 193 = .ok (.iconst 0, 1) := by decide +kernel
theorem dX9_spans_194 : decode cX9_spans 194 = .ok (.ireturn, 1) := by decide +kernel
theorem dX9_spans_195 : decode cX9_spans 195 = .ok (.iload_n 2, 1) := by decide +kernel
theorem dX9_spans_196 : decode cX9_spans 196 = .ok (.iload 4, 2) := by decide +kernel
theorem dX9_spans_198 : decode cX9_spans 198 = .ok (.iconst 5, 1) := by decide +kernel
theorem dX9_spans_199 : decode cX9_spans 199 = .ok (.isub, 1) := by decide +kernel
theorem dX9_spans_200 : decode cX9_spans 200 = .ok (.if_icmp .gt 7, 3) := by decide +kernel
theorem dX9_spans_203 : decode cX9_spans 203 = .ok (.iconst 1, 1) := by decide +kernel
theorem dX9_spans_204 : decode cX9_spans 204 = .ok (.goto 4, 3) := by decide +kernel
theorem dX9_spans_207 : decode cX9_spans 207 = .ok (.iconst 0, 1) := by decide +kernel
theorem dX9_spans_208 : decode cX9_spans 208 = .ok (.ireturn, 1) := by decide +kernel
theorem dX9_span_0 : decode cX9_span 0 = .ok (.aload_n 0, 1) := by decide +kernel
theorem dX9_span_1 : decode cX9_span 1 = .ok (.iload_n 1, 1) := by decide +kernel
theorem dX9_span_2 : decode cX9_span 2 = .ok (.invokevirtual 114, 3) := by decide +kernel
theorem dX9_span_5 : decode cX9_span 5 = .ok (.ifCond .eq 10, 3) := by decide +kernel
theorem dX9_span_8 : decode cX9_span 8 = .ok (.iload_n 2, 1) := by decide +kernel
theorem dX9_span_9 : decode cX9_span 9 = .ok (.invokestatic 111, 3) := by decide +kernel
theorem dX9_span_12 : decode cX9_span 12 = .ok (.ifCond .ne 7, 3) := by decide +kernel
theorem dX9_span_15 : decode cX9_span 15 = .ok (.iconst (-1), 1) := by decide +kernel
theorem dX9_span_16 : decode cX9_span 16 = .ok (.goto 17, 3) := by decide +kernel
theorem dX9_span_19 : decode cX9_span 19 = .ok (.aload_n 0, 1) := by decide +kernel
theorem dX9_span_20 : decode cX9_span 20 = .ok (.iload_n 1, 1) := by decide +kernel
theorem dX9_span_21 : decode cX9_span 21 = .ok (.iload_n 2, 1) := by decide +kernel
theorem dX9_span_22 : decode cX9_span 22 = .ok (.invokevirtual 121, 3) := by decide +kernel
theorem dX9_span_25 : decode cX9_span 25 = .ok (.ifCond .eq 7, 3) := by decide +kernel
theorem dX9_span_28 : decode cX9_span 28 = .ok (.iconst 1, 1) := by decide +kernel
theorem dX9_span_29 : decode cX9_span 29 = .ok (.goto 4, 3) := by decide +kernel
theorem dX9_span_32 : decode cX9_span 32 = .ok (.iconst 0, 1) := by decide +kernel
theorem dX9_span_33 : decode cX9_span 33 = .ok (.ireturn, 1) := by decide +kernel
theorem dX9_life_0 : decode cX9_life 0 = .ok (.iload_n 1, 1) := by decide +kernel
theorem dX9_life_1 : decode cX9_life 1 = .ok (.invokestatic 125, 3) := by decide +kernel
theorem dX9_life_4 : decode cX9_life 4 = .ok (.ifCond .ne 5, 3) := by decide +kernel
theorem dX9_life_7 : decode cX9_life 7 = .ok (.iconst (-1), 1) := by decide +kernel
theorem dX9_life_8 : decode cX9_life 8 = .ok (.ireturn, 1) := by decide +kernel
theorem dX9_life_9 : decode cX9_life 9 = .ok (.aload_n 0, 1) := by decide +kernel
theorem dX9_life_10 : decode cX9_life 10 = .ok (.iload_n 1, 1) := by decide +kernel
theorem dX9_life_11 : decode cX9_life 11 = .ok (.iconst 1, 1) := by decide +kernel
theorem dX9_life_12 : decode cX9_life 12 = .ok (.invokevirtual 128, 3) := by decide +kernel
theorem dX9_life_15 : decode cX9_life 15 = .ok (.istore_n 2, 1) := by decide +kernel
theorem dX9_life_16 : decode cX9_life 16 = .ok (.iload_n 2, 1) := by decide +kernel
theorem dX9_life_17 : decode cX9_life 17 = .ok (.ifCond .eq 5, 3) := by decide +kernel
theorem dX9_life_20 : decode cX9_life 20 = .ok (.iload_n 2, 1) := by decide +kernel
theorem dX9_life_21 : decode cX9_life 21 = .ok (.ireturn, 1) := by decide +kernel
theorem dX9_life_22 : decode cX9_life 22 = .ok (.aload_n 0, 1) := by decide +kernel
theorem dX9_life_23 : decode cX9_life 23 = .ok (.getfield 64, 3) := by decide +kernel
theorem dX9_life_26 : decode cX9_life 26 = .ok (.iload_n 1, 1) := by decide +kernel
theorem dX9_life_27 : decode cX9_life 27 = .ok (.iaload, 1) := by decide +kernel
theorem dX9_life_28 : decode cX9_life 28 = .ok (.bipush 17, 2) := by decide +kernel
theorem dX9_life_30 : decode cX9_life 30 = .ok (.if_icmp .ne 7, 3) := by decide +kernel
theorem dX9_life_33 : decode cX9_life 33 = .ok (.iconst 1, 1) := by decide +kernel
theorem dX9_life_34 : decode cX9_life 34 = .ok (.goto 4, 3) := by decide +kernel
theorem dX9_life_37 : decode cX9_life 37 = .ok (.iconst 0, 1) := by decide +kernel
theorem dX9_life_38 : decode cX9_life 38 = .ok (.istore_n 3, 1) := by decide +kernel
theorem dX9_life_39 : decode cX9_life 39 = .ok (.iconst 0, 1) := by decide +kernel
theorem dX9_life_40 : decode cX9_life 40 = .ok (.istore 4, 2) := by decide +kernel
theorem dX9_life_42 : decode cX9_life 42 = .ok (.iload 4, 2) := by decide +kernel
theorem dX9_life_44 : decode cX9_life 44 = .ok (.bipush 17, 2) := by decide +kernel
theorem dX9_life_46 : decode cX9_life 46 = .ok (.if_icmp .ge 55, 3) := by decide +kernel
theorem dX9_life_49 : decode cX9_life 49 = .ok (.iload_n 3, 1) := by decide +kernel
theorem dX9_life_50 : decode cX9_life 50 = .ok (.ifCond .eq 43, 3) := by decide +kernel
theorem dX9_life_53 : decode cX9_life 53 = .ok (.aload_n 0, 1) := by decide +kernel
theorem dX9_life_54 : decode cX9_life 54 = .ok (.getfield 67, 3) := by decide +kernel
theorem dX9_life_57 : decode cX9_life 57 = .ok (.bipush 40, 2) := by decide +kernel
theorem dX9_life_59 : decode cX9_life 59 = .ok (.iload_n 1, 1) := by decide +kernel
theorem dX9_life_60 : decode cX9_life 60 = .ok (.imul, 1) := by decide +kernel
theorem dX9_life_61 : decode cX9_life 61 = .ok (.iload 4, 2) := by decide +kernel
theorem dX9_life_63 : decode cX9_life 63 = .ok (.iadd, 1) := by decide +kernel
theorem dX9_life_64 : decode cX9_life 64 = .ok (.laload, 1) := by decide +kernel
theorem dX9_life_65 : decode cX9_life 65 = .ok (.lconst 0, 1) := by decide +kernel
theorem dX9_life_66 : decode cX9_life 66 = .ok (.lcmp, 1) := by decide +kernel
theorem dX9_life_67 : decode cX9_life 67 = .ok (.ifCond .lt 26, 3) := by decide +kernel
theorem dX9_life_70 : decode cX9_life 70 = .ok (.aload_n 0, 1) := by decide +kernel
theorem dX9_life_71 : decode cX9_life 71 = .ok (.getfield 67, 3) := by decide +kernel
theorem dX9_life_74 : decode cX9_life 74 = .ok (.bipush 40, 2) := by decide +kernel
theorem dX9_life_76 : decode cX9_life 76 = .ok (.iload_n 1, 1) := by decide +kernel
theorem dX9_life_77 : decode cX9_life 77 = .ok (.imul, 1) := by decide +kernel
theorem dX9_life_78 : decode cX9_life 78 = .ok (.iload 4, 2) := by decide +kernel
theorem dX9_life_80 : decode cX9_life 80 = .ok (.iadd, 1) := by decide +kernel
theorem dX9_life_81 : decode cX9_life 81 = .ok (.laload, 1) := by decide +kernel
theorem dX9_life_82 : decode cX9_life 82 = .ok (.ldc2_w 131, 3) := by decide +kernel
theorem dX9_life_85 : decode cX9_life 85 = .ok (.lcmp, 1) := by decide +kernel
theorem dX9_life_86 : decode cX9_life 86 = .ok (.ifCond .gt 7, 3) := by decide +kernel
theorem dX9_life_89 : decode cX9_life 89 = .ok (.iconst 1, 1) := by decide +kernel
theorem dX9_life_90 : decode cX9_life 90 = .ok (.goto 4, 3) := by decide +kernel
theorem dX9_life_93 : decode cX9_life 93 = .ok (.iconst 0, 1) := by decide +kernel
theorem dX9_life_94 : decode cX9_life 94 = .ok (.istore_n 3, 1) := by decide +kernel
theorem dX9_life_95 : decode cX9_life 95 = .ok (.iinc 4 1, 3) := by decide +kernel
theorem dX9_life_98 : decode cX9_life 98 = .ok (.goto (-56), 3) := by decide +kernel
theorem dX9_life_101 : decode cX9_life 101 = .ok (.iload_n 3, 1) := by decide +kernel
theorem dX9_life_102 : decode cX9_life 102 = .ok (.ifCond .ne 6, 3) := by decide +kernel
theorem dX9_life_105 : decode cX9_life 105 = .ok (.bipush (-4), 2) := by decide +kernel
theorem dX9_life_107 : decode cX9_life 107 = .ok (.ireturn, 1) := by decide +kernel
theorem dX9_life_108 : decode cX9_life 108 = .ok (.iconst 0, 1) := by decide +kernel
theorem dX9_life_109 : decode cX9_life 109 = .ok (.istore 4, 2) := by decide +kernel
theorem dX9_life_111 : decode cX9_life 111 = .ok (.iload 4, 2) := by decide +kernel
theorem dX9_life_113 : decode cX9_life 113 = .ok (.bipush 17, 2) := by decide +kernel
theorem dX9_life_115 : decode cX9_life 115 = .ok (.if_icmp .ge 29, 3) := by decide +kernel
theorem dX9_life_118 : decode cX9_life 118 = .ok (.aload_n 0, 1) := by decide +kernel
theorem dX9_life_119 : decode cX9_life 119 = .ok (.getfield 16, 3) := by decide +kernel
theorem dX9_life_122 : decode cX9_life 122 = .ok (.iload 4, 2) := by decide +kernel
theorem dX9_life_124 : decode cX9_life 124 = .ok (.aload_n 0, 1) := by decide +kernel
theorem dX9_life_125 : decode cX9_life 125 = .ok (.getfield 67, 3) := by decide +kernel
theorem dX9_life_128 : decode cX9_life 128 = .ok (.bipush 40, 2) := by decide +kernel
theorem dX9_life_130 : decode cX9_life 130 = .ok (.iload_n 1, 1) := by decide +kernel
theorem dX9_life_131 : decode cX9_life 131 = .ok (.imul, 1) := by decide +kernel
theorem dX9_life_132 : decode cX9_life 132 = .ok (.iload 4, 2) := by decide +kernel
theorem dX9_life_134 : decode cX9_life 134 = .ok (.iadd, 1) := by decide +kernel
theorem dX9_life_135 : decode cX9_life 135 = .ok (.laload, 1) := by decide +kernel
theorem dX9_life_136 : decode cX9_life 136 = .ok (.l2i, 1) := by decide +kernel
theorem dX9_life_137 : decode cX9_life 137 = .ok (.iastore, 1) := by decide +kernel
theorem dX9_life_138 : decode cX9_life 138 = .ok (.iinc 4 1, 3) := by decide +kernel
theorem dX9_life_141 : decode cX9_life 141 = .ok (.goto (-30), 3) := by decide +kernel
theorem dX9_life_144 : decode cX9_life 144 = .ok (.iconst 1, 1) := by decide +kernel
theorem dX9_life_145 : decode cX9_life 145 = .ok (.ireturn, 1) := by decide +kernel
theorem dX9_isLeftOut_0 : decode cX9_isLeftOut 0 = .ok (.iconst 0, 1) := by decide +kernel
theorem dX9_isLeftOut_1 : decode cX9_isLeftOut 1 = .ok (.istore_n 3, 1) := by decide +kernel
theorem dX9_isLeftOut_2 : decode cX9_isLeftOut 2 = .ok (.iconst 0, 1) := by decide +kernel
theorem dX9_isLeftOut_3 : decode cX9_isLeftOut 3 = .ok (.istore 4, 2) := by decide +kernel
theorem dX9_isLeftOut_5 : decode cX9_isLeftOut 5 = .ok (.iload 4, 2) := by decide +kernel
theorem dX9_isLeftOut_7 : decode cX9_isLeftOut 7 = .ok (.aload_n 0, 1) := by decide +kernel
theorem dX9_isLeftOut_8 : decode cX9_isLeftOut 8 = .ok (.getfield 133, 3) := by decide +kernel
theorem dX9_isLeftOut_11 : decode cX9_isLeftOut 11 = .ok (.if_icmp .ge 91, 3) := by decide +kernel
theorem dX9_isLeftOut_14 : decode cX9_isLeftOut 14 = .ok (.aload_n 0, 1) := by decide +kernel
theorem dX9_isLeftOut_15 : decode cX9_isLeftOut 15 = .ok (.getfield 25, 3) := by decide +kernel
theorem dX9_isLeftOut_18 : decode cX9_isLeftOut 18 = .ok (.iconst 4, 1) := by decide +kernel
theorem dX9_isLeftOut_19 : decode cX9_isLeftOut 19 = .ok (.iload 4, 2) := by decide +kernel
theorem dX9_isLeftOut_21 : decode cX9_isLeftOut 21 = .ok (.imul, 1) := by decide +kernel
theorem dX9_isLeftOut_22 : decode cX9_isLeftOut 22 = .ok (.iaload, 1) := by decide +kernel
theorem dX9_isLeftOut_23 : decode cX9_isLeftOut 23 = .ok (.iload_n 1, 1) := by decide +kernel
theorem dX9_isLeftOut_24 : decode cX9_isLeftOut 24 = .ok (.if_icmp .ne 17, 3) := by decide +kernel
theorem dX9_isLeftOut_27 : decode cX9_isLeftOut 27 = .ok (.aload_n 0, 1) := by decide +kernel
theorem dX9_isLeftOut_28 : decode cX9_isLeftOut 28 = .ok (.getfield 25, 3) := by decide +kernel
theorem dX9_isLeftOut_31 : decode cX9_isLeftOut 31 = .ok (.iconst 4, 1) := by decide +kernel
theorem dX9_isLeftOut_32 : decode cX9_isLeftOut 32 = .ok (.iload 4, 2) := by decide +kernel
theorem dX9_isLeftOut_34 : decode cX9_isLeftOut 34 = .ok (.imul, 1) := by decide +kernel
theorem dX9_isLeftOut_35 : decode cX9_isLeftOut 35 = .ok (.iconst 3, 1) := by decide +kernel
theorem dX9_isLeftOut_36 : decode cX9_isLeftOut 36 = .ok (.iadd, 1) := by decide +kernel
theorem dX9_isLeftOut_37 : decode cX9_isLeftOut 37 = .ok (.iaload, 1) := by decide +kernel
theorem dX9_isLeftOut_38 : decode cX9_isLeftOut 38 = .ok (.goto 4, 3) := by decide +kernel
theorem dX9_isLeftOut_41 : decode cX9_isLeftOut 41 = .ok (.iconst 0, 1) := by decide +kernel
theorem dX9_isLeftOut_42 : decode cX9_isLeftOut 42 = .ok (.istore 5, 2) := by decide +kernel
theorem dX9_isLeftOut_44 : decode cX9_isLeftOut 44 = .ok (.iload_n 3, 1) := by decide +kernel
theorem dX9_isLeftOut_45 : decode cX9_isLeftOut 45 = .ok (.ifCond .ne 45, 3) := by decide +kernel
theorem dX9_isLeftOut_48 : decode cX9_isLeftOut 48 = .ok (.iload 5, 2) := by decide +kernel
theorem dX9_isLeftOut_50 : decode cX9_isLeftOut 50 = .ok (.iconst 1, 1) := by decide +kernel
theorem dX9_isLeftOut_51 : decode cX9_isLeftOut 51 = .ok (.if_icmp .ne 18, 3) := by decide +kernel
theorem dX9_isLeftOut_54 : decode cX9_isLeftOut 54 = .ok (.iload_n 2, 1) := by decide +kernel
theorem dX9_isLeftOut_55 : decode cX9_isLeftOut 55 = .ok (.aload_n 0, 1) := by decide +kernel
theorem dX9_isLeftOut_56 : decode cX9_isLeftOut 56 = .ok (.getfield 25, 3) := by decide +kernel
theorem dX9_isLeftOut_59 : decode cX9_isLeftOut 59 = .ok (.iconst 4, 1) := by decide +kernel
theorem dX9_isLeftOut_60 : decode cX9_isLeftOut 60 = .ok (.iload 4, 2) := by decide +kernel
theorem dX9_isLeftOut_62 : decode cX9_isLeftOut 62 = .ok (.imul, 1) := by decide +kernel
theorem dX9_isLeftOut_63 : decode cX9_isLeftOut 63 = .ok (.iconst 1, 1) := by decide +kernel
theorem dX9_isLeftOut_64 : decode cX9_isLeftOut 64 = .ok (.iadd, 1) := by decide +kernel
theorem dX9_isLeftOut_65 : decode cX9_isLeftOut 65 = .ok (.iaload, 1) := by decide +kernel
theorem dX9_isLeftOut_66 : decode cX9_isLeftOut 66 = .ok (.if_icmp .gt 24, 3) := by decide +kernel
theorem dX9_isLeftOut_69 : decode cX9_isLeftOut 69 = .ok (.iload 5, 2) := by decide +kernel
theorem dX9_isLeftOut_71 : decode cX9_isLeftOut 71 = .ok (.iconst 2, 1) := by decide +kernel
theorem dX9_isLeftOut_72 : decode cX9_isLeftOut 72 = .ok (.if_icmp .ne 22, 3) := by decide +kernel
theorem dX9_isLeftOut_75 : decode cX9_isLeftOut 75 = .ok (.iload_n 2, 1) := by decide +kernel
theorem dX9_isLeftOut_76 : decode cX9_isLeftOut 76 = .ok (.aload_n 0, 1) := by decide +kernel
theorem dX9_isLeftOut_77 : decode cX9_isLeftOut 77 = .ok (.getfield 25, 3) := by decide +kernel
theorem dX9_isLeftOut_80 : decode cX9_isLeftOut 80 = .ok (.iconst 4, 1) := by decide +kernel
theorem dX9_isLeftOut_81 : decode cX9_isLeftOut 81 = .ok (.iload 4, 2) := by decide +kernel
theorem dX9_isLeftOut_83 : decode cX9_isLeftOut 83 = .ok (.imul, 1) := by decide +kernel
theorem dX9_isLeftOut_84 : decode cX9_isLeftOut 84 = .ok (.iconst 1, 1) := by decide +kernel
theorem dX9_isLeftOut_85 : decode cX9_isLeftOut 85 = .ok (.iadd, 1) := by decide +kernel
theorem dX9_isLeftOut_86 : decode cX9_isLeftOut 86 = .ok (.iaload, 1) := by decide +kernel
theorem dX9_isLeftOut_87 : decode cX9_isLeftOut 87 = .ok (.if_icmp .gt 7, 3) := by decide +kernel
theorem dX9_isLeftOut_90 : decode cX9_isLeftOut 90 = .ok (.iconst 1, 1) := by decide +kernel
theorem dX9_isLeftOut_91 : decode cX9_isLeftOut 91 = .ok (.goto 4, 3) := by decide +kernel
theorem dX9_isLeftOut_94 : decode cX9_isLeftOut 94 = .ok (.iconst 0, 1) := by decide +kernel
theorem dX9_isLeftOut_95 : decode cX9_isLeftOut 95 = .ok (.istore_n 3, 1) := by decide +kernel
theorem dX9_isLeftOut_96 : decode cX9_isLeftOut 96 = .ok (.iinc 4 1, 3) := by decide +kernel
theorem dX9_isLeftOut_99 : decode cX9_isLeftOut 99 = .ok (.goto (-94), 3) := by decide +kernel
theorem dX9_isLeftOut_102 : decode cX9_isLeftOut 102 = .ok (.iload_n 3, 1) := by decide +kernel
theorem dX9_isLeftOut_103 : decode cX9_isLeftOut 103 = .ok (.ireturn, 1) := by decide +kernel
theorem dX9_weightOf_0 : decode cX9_weightOf 0 = .ok (.aload_n 0, 1) := by decide +kernel
theorem dX9_weightOf_1 : decode cX9_weightOf 1 = .ok (.iload_n 1, 1) := by decide +kernel
theorem dX9_weightOf_2 : decode cX9_weightOf 2 = .ok (.invokevirtual 104, 3) := by decide +kernel
theorem dX9_weightOf_5 : decode cX9_weightOf 5 = .ok (.istore_n 3, 1) := by decide +kernel
theorem dX9_weightOf_6 : decode cX9_weightOf 6 = .ok (.iload_n 2, 1) := by decide +kernel
theorem dX9_weightOf_7 : decode cX9_weightOf 7 = .ok (.iload_n 3, 1) := by decide +kernel
theorem dX9_weightOf_8 : decode cX9_weightOf 8 = .ok (.if_icmp .gt 12, 3) := by decide +kernel
theorem dX9_weightOf_11 : decode cX9_weightOf 11 = .ok (.aload_n 0, 1) := by decide +kernel
theorem dX9_weightOf_12 : decode cX9_weightOf 12 = .ok (.iload_n 1, 1) := by decide +kernel
theorem dX9_weightOf_13 : decode cX9_weightOf 13 = .ok (.iload_n 2, 1) := by decide +kernel
theorem dX9_weightOf_14 : decode cX9_weightOf 14 = .ok (.invokevirtual 136, 3) := by decide +kernel
theorem dX9_weightOf_17 : decode cX9_weightOf 17 = .ok (.ifCond .eq 5, 3) := by decide +kernel
theorem dX9_weightOf_20 : decode cX9_weightOf 20 = .ok (.lconst 0, 1) := by decide +kernel
theorem dX9_weightOf_21 : decode cX9_weightOf 21 = .ok (.lreturn, 1) := by decide +kernel
theorem dX9_weightOf_22 : decode cX9_weightOf 22 = .ok (.aload_n 0, 1) := by decide +kernel
theorem dX9_weightOf_23 : decode cX9_weightOf 23 = .ok (.getfield 16, 3) := by decide +kernel
theorem dX9_weightOf_26 : decode cX9_weightOf 26 = .ok (.iload_n 3, 1) := by decide +kernel
theorem dX9_weightOf_27 : decode cX9_weightOf 27 = .ok (.iload_n 2, 1) := by decide +kernel
theorem dX9_weightOf_28 : decode cX9_weightOf 28 = .ok (.isub, 1) := by decide +kernel
theorem dX9_weightOf_29 : decode cX9_weightOf 29 = .ok (.bipush 10, 2) := by decide +kernel
theorem dX9_weightOf_31 : decode cX9_weightOf 31 = .ok (.idiv, 1) := by decide +kernel
theorem dX9_weightOf_32 : decode cX9_weightOf 32 = .ok (.iaload, 1) := by decide +kernel
theorem dX9_weightOf_33 : decode cX9_weightOf 33 = .ok (.i2l, 1) := by decide +kernel
theorem dX9_weightOf_34 : decode cX9_weightOf 34 = .ok (.lstore 4, 2) := by decide +kernel
theorem dX9_weightOf_36 : decode cX9_weightOf 36 = .ok (.iconst 0, 1) := by decide +kernel
theorem dX9_weightOf_37 : decode cX9_weightOf 37 = .ok (.istore 6, 2) := by decide +kernel
theorem dX9_weightOf_39 : decode cX9_weightOf 39 = .ok (.iload 6, 2) := by decide +kernel
theorem dX9_weightOf_41 : decode cX9_weightOf 41 = .ok (.aload_n 0, 1) := by decide +kernel
theorem dX9_weightOf_42 : decode cX9_weightOf 42 = .ok (.getfield 97, 3) := by decide +kernel
theorem dX9_weightOf_45 : decode cX9_weightOf 45 = .ok (.if_icmp .ge 70, 3) := by decide +kernel
theorem dX9_weightOf_48 : decode cX9_weightOf 48 = .ok (.aload_n 0, 1) := by decide +kernel
theorem dX9_weightOf_49 : decode cX9_weightOf 49 = .ok (.getfield 13, 3) := by decide +kernel
theorem dX9_weightOf_52 : decode cX9_weightOf 52 = .ok (.bipush 6, 2) := by decide +kernel
theorem dX9_weightOf_54 : decode cX9_weightOf 54 = .ok (.iload 6, 2) := by decide +kernel
theorem dX9_weightOf_56 : decode cX9_weightOf 56 = .ok (.imul, 1) := by decide +kernel
theorem dX9_weightOf_57 : decode cX9_weightOf 57 = .ok (.iaload, 1) := by decide +kernel
theorem dX9_weightOf_58 : decode cX9_weightOf 58 = .ok (.iload_n 1, 1) := by decide +kernel
theorem dX9_weightOf_59 : decode cX9_weightOf 59 = .ok (.if_icmp .ne 50, 3) := by decide +kernel
theorem dX9_weightOf_62 : decode cX9_weightOf 62 = .ok (.lload 4, 2) := by decide +kernel
theorem dX9_weightOf_64 : decode cX9_weightOf 64 = .ok (.aload_n 0, 1) := by decide +kernel
theorem dX9_weightOf_65 : decode cX9_weightOf 65 = .ok (.iload 6, 2) := by decide +kernel
theorem dX9_weightOf_67 : decode cX9_weightOf 67 = .ok (.iload_n 2, 1) := by decide +kernel
theorem dX9_weightOf_68 : decode cX9_weightOf 68 = .ok (.invokevirtual 121, 3) := by decide +kernel
theorem dX9_weightOf_71 : decode cX9_weightOf 71 = .ok (.ifCond .eq 22, 3) := by decide +kernel
theorem dX9_weightOf_74 : decode cX9_weightOf 74 = .ok (.bipush 100, 2) := by decide +kernel
theorem dX9_weightOf_76 : decode cX9_weightOf 76 = .ok (.aload_n 0, 1) := by decide +kernel
theorem dX9_weightOf_77 : decode cX9_weightOf 77 = .ok (.getfield 13, 3) := by decide +kernel
theorem dX9_weightOf_80 : decode cX9_weightOf 80 = .ok (.bipush 6, 2) := by decide +kernel
theorem dX9_weightOf_82 : decode cX9_weightOf 82 = .ok (.iload 6, 2) := by decide +kernel
theorem dX9_weightOf_84 : decode cX9_weightOf 84 = .ok (.imul, 1) := by decide +kernel
theorem dX9_weightOf_85 : decode cX9_weightOf 85 = .ok (.iconst 4, 1) := by decide +kernel
theorem dX9_weightOf_86 : decode cX9_weightOf 86 = .ok (.iadd, 1) := by decide +kernel
theorem dX9_weightOf_87 : decode cX9_weightOf 87 = .ok (.iaload, 1) := by decide +kernel
theorem dX9_weightOf_88 : decode cX9_weightOf 88 = .ok (.isub, 1) := by decide +kernel
theorem dX9_weightOf_89 : decode cX9_weightOf 89 = .ok (.i2l, 1) := by decide +kernel
theorem dX9_weightOf_90 : decode cX9_weightOf 90 = .ok (.goto 16, 3) := by decide +kernel
theorem dX9_weightOf_93 : decode cX9_weightOf 93 = .ok (.aload_n 0, 1) := by decide +kernel
theorem dX9_weightOf_94 : decode cX9_weightOf 94 = .ok (.getfield 13, 3) := by decide +kernel
theorem dX9_weightOf_97 : decode cX9_weightOf 97 = .ok (.bipush 6, 2) := by decide +kernel
theorem dX9_weightOf_99 : decode cX9_weightOf 99 = .ok (.iload 6, 2) := by decide +kernel
theorem dX9_weightOf_101 : decode cX9_weightOf 101 = .ok (.imul, 1) := by decide +kernel
theorem dX9_weightOf_102 : decode cX9_weightOf 102 = .ok (.iconst 4, 1) := by decide +kernel
theorem dX9_weightOf_103 : decode cX9_weightOf 103 = .ok (.iadd, 1) := by decide +kernel
theorem dX9_weightOf_104 : decode cX9_weightOf 104 = .ok (.iaload, 1) := by decide +kernel
theorem dX9_weightOf_105 : decode cX9_weightOf 105 = .ok (.i2l, 1) := by decide +kernel
theorem dX9_weightOf_106 : decode cX9_weightOf 106 = .ok (.lmul, 1) := by decide +kernel
theorem dX9_weightOf_107 : decode cX9_weightOf 107 = .ok (.lstore 4, 2) := by decide +kernel
theorem dX9_weightOf_109 : decode cX9_weightOf 109 = .ok (.iinc 6 1, 3) := by decide +kernel
theorem dX9_weightOf_112 : decode cX9_weightOf 112 = .ok (.goto (-73), 3) := by decide +kernel
theorem dX9_weightOf_115 : decode cX9_weightOf 115 = .ok (.lload 4, 2) := by decide +kernel
theorem dX9_weightOf_117 : decode cX9_weightOf 117 = .ok (.lreturn, 1) := by decide +kernel
theorem dX9_sumOf_0 : decode cX9_sumOf 0 = .ok (.lconst 0, 1) := by decide +kernel
theorem dX9_sumOf_1 : decode cX9_sumOf 1 = .ok (.lstore 4, 2) := by decide +kernel
theorem dX9_sumOf_3 : decode cX9_sumOf 3 = .ok (.iload_n 2, 1) := by decide +kernel
theorem dX9_sumOf_4 : decode cX9_sumOf 4 = .ok (.istore 6, 2) := by decide +kernel
theorem dX9_sumOf_6 : decode cX9_sumOf 6 = .ok (.iload 6, 2) := by decide +kernel
theorem dX9_sumOf_8 : decode cX9_sumOf 8 = .ok (.iload_n 3, 1) := by decide +kernel
theorem dX9_sumOf_9 : decode cX9_sumOf 9 = .ok (.if_icmp .gt 21, 3) := by decide +kernel
theorem dX9_sumOf_12 : decode cX9_sumOf 12 = .ok (.lload 4, 2) := by decide +kernel
theorem dX9_sumOf_14 : decode cX9_sumOf 14 = .ok (.aload_n 0, 1) := by decide +kernel
theorem dX9_sumOf_15 : decode cX9_sumOf 15 = .ok (.iload_n 1, 1) := by decide +kernel
theorem dX9_sumOf_16 : decode cX9_sumOf 16 = .ok (.iload 6, 2) := by decide +kernel
theorem dX9_sumOf_18 : decode cX9_sumOf 18 = .ok (.invokevirtual 139, 3) := by decide +kernel
theorem dX9_sumOf_21 : decode cX9_sumOf 21 = .ok (.ladd, 1) := by decide +kernel
theorem dX9_sumOf_22 : decode cX9_sumOf 22 = .ok (.lstore 4, 2) := by decide +kernel
theorem dX9_sumOf_24 : decode cX9_sumOf 24 = .ok (.iinc 6 1, 3) := by decide +kernel
theorem dX9_sumOf_27 : decode cX9_sumOf 27 = .ok (.goto (-21), 3) := by decide +kernel
theorem dX9_sumOf_30 : decode cX9_sumOf 30 = .ok (.lload 4, 2) := by decide +kernel
theorem dX9_sumOf_32 : decode cX9_sumOf 32 = .ok (.lreturn, 1) := by decide +kernel
theorem dX9_allOf_0 : decode cX9_allOf 0 = .ok (.aload_n 0, 1) := by decide +kernel
theorem dX9_allOf_1 : decode cX9_allOf 1 = .ok (.iload_n 1, 1) := by decide +kernel
theorem dX9_allOf_2 : decode cX9_allOf 2 = .ok (.iconst 0, 1) := by decide +kernel
theorem dX9_allOf_3 : decode cX9_allOf 3 = .ok (.sipush 160, 3) := by decide +kernel
theorem dX9_allOf_6 : decode cX9_allOf 6 = .ok (.invokevirtual 143, 3) := by decide +kernel
theorem dX9_allOf_9 : decode cX9_allOf 9 = .ok (.lreturn, 1) := by decide +kernel
theorem dX9_weight_0 : decode cX9_weight 0 = .ok (.aload_n 0, 1) := by decide +kernel
theorem dX9_weight_1 : decode cX9_weight 1 = .ok (.iload_n 1, 1) := by decide +kernel
theorem dX9_weight_2 : decode cX9_weight 2 = .ok (.invokevirtual 100, 3) := by decide +kernel
theorem dX9_weight_5 : decode cX9_weight 5 = .ok (.ifCond .eq 19, 3) := by decide +kernel
theorem dX9_weight_8 : decode cX9_weight 8 = .ok (.iload_n 2, 1) := by decide +kernel
theorem dX9_weight_9 : decode cX9_weight 9 = .ok (.invokestatic 111, 3) := by decide +kernel
theorem dX9_weight_12 : decode cX9_weight 12 = .ok (.ifCond .eq 12, 3) := by decide +kernel
theorem dX9_weight_15 : decode cX9_weight 15 = .ok (.aload_n 0, 1) := by decide +kernel
theorem dX9_weight_16 : decode cX9_weight 16 = .ok (.iload_n 1, 1) := by decide +kernel
theorem dX9_weight_17 : decode cX9_weight 17 = .ok (.iload_n 2, 1) := by decide +kernel
theorem dX9_weight_18 : decode cX9_weight 18 = .ok (.invokevirtual 139, 3) := by decide +kernel
theorem dX9_weight_21 : decode cX9_weight 21 = .ok (.goto 6, 3) := by decide +kernel
theorem dX9_weight_24 : decode cX9_weight 24 = .ok (.ldc2_w 147, 3) := by decide +kernel
theorem dX9_weight_27 : decode cX9_weight 27 = .ok (.lreturn, 1) := by decide +kernel
theorem dX9_all_0 : decode cX9_all 0 = .ok (.aload_n 0, 1) := by decide +kernel
theorem dX9_all_1 : decode cX9_all 1 = .ok (.iload_n 1, 1) := by decide +kernel
theorem dX9_all_2 : decode cX9_all 2 = .ok (.invokevirtual 100, 3) := by decide +kernel
theorem dX9_all_5 : decode cX9_all 5 = .ok (.ifCond .eq 11, 3) := by decide +kernel
theorem dX9_all_8 : decode cX9_all 8 = .ok (.aload_n 0, 1) := by decide +kernel
theorem dX9_all_9 : decode cX9_all 9 = .ok (.iload_n 1, 1) := by decide +kernel
theorem dX9_all_10 : decode cX9_all 10 = .ok (.invokevirtual 149, 3) := by decide +kernel
theorem dX9_all_13 : decode cX9_all 13 = .ok (.goto 6, 3) := by decide +kernel
theorem dX9_all_16 : decode cX9_all 16 = .ok (.ldc2_w 147, 3) := by decide +kernel
theorem dX9_all_19 : decode cX9_all 19 = .ok (.lreturn, 1) := by decide +kernel
theorem dX9_bestOf_0 : decode cX9_bestOf 0 = .ok (.iconst (-1), 1) := by decide +kernel
theorem dX9_bestOf_1 : decode cX9_bestOf 1 = .ok (.istore_n 2, 1) := by decide +kernel
theorem dX9_bestOf_2 : decode cX9_bestOf 2 = .ok (.lconst 0, 1) := by decide +kernel
theorem dX9_bestOf_3 : decode cX9_bestOf 3 = .ok (.lstore_n 3, 1) := by decide +kernel
theorem dX9_bestOf_4 : decode cX9_bestOf 4 = .ok (.iconst 0, 1) := by decide +kernel
theorem dX9_bestOf_5 : decode cX9_bestOf 5 = .ok (.istore 5, 2) := by decide +kernel
theorem dX9_bestOf_7 : decode cX9_bestOf 7 = .ok (.iload 5, 2) := by decide +kernel
theorem dX9_bestOf_9 : decode cX9_bestOf 9 = .ok (.sipush 161, 3) := by decide +kernel
theorem dX9_bestOf_12 : decode cX9_bestOf 12 = .ok (.if_icmp .ge 31, 3) := by decide +kernel
theorem dX9_bestOf_15 : decode cX9_bestOf 15 = .ok (.aload_n 0, 1) := by decide +kernel
theorem dX9_bestOf_16 : decode cX9_bestOf 16 = .ok (.iload_n 1, 1) := by decide +kernel
theorem dX9_bestOf_17 : decode cX9_bestOf 17 = .ok (.iload 5, 2) := by decide +kernel
theorem dX9_bestOf_19 : decode cX9_bestOf 19 = .ok (.invokevirtual 139, 3) := by decide +kernel
theorem dX9_bestOf_22 : decode cX9_bestOf 22 = .ok (.lstore 6, 2) := by decide +kernel
theorem dX9_bestOf_24 : decode cX9_bestOf 24 = .ok (.lload 6, 2) := by decide +kernel
theorem dX9_bestOf_26 : decode cX9_bestOf 26 = .ok (.lload_n 3, 1) := by decide +kernel
theorem dX9_bestOf_27 : decode cX9_bestOf 27 = .ok (.lcmp, 1) := by decide +kernel
theorem dX9_bestOf_28 : decode cX9_bestOf 28 = .ok (.ifCond .le 9, 3) := by decide +kernel
theorem dX9_bestOf_31 : decode cX9_bestOf 31 = .ok (.lload 6, 2) := by decide +kernel
theorem dX9_bestOf_33 : decode cX9_bestOf 33 = .ok (.lstore_n 3, 1) := by decide +kernel
theorem dX9_bestOf_34 : decode cX9_bestOf 34 = .ok (.iload 5, 2) := by decide +kernel
theorem dX9_bestOf_36 : decode cX9_bestOf 36 = .ok (.istore_n 2, 1) := by decide +kernel
theorem dX9_bestOf_37 : decode cX9_bestOf 37 = .ok (.iinc 5 1, 3) := by decide +kernel
theorem dX9_bestOf_40 : decode cX9_bestOf 40 = .ok (.goto (-33), 3) := by decide +kernel
theorem dX9_bestOf_43 : decode cX9_bestOf 43 = .ok (.iload_n 2, 1) := by decide +kernel
theorem dX9_bestOf_44 : decode cX9_bestOf 44 = .ok (.ireturn, 1) := by decide +kernel
theorem dX9_best_0 : decode cX9_best 0 = .ok (.aload_n 0, 1) := by decide +kernel
theorem dX9_best_1 : decode cX9_best 1 = .ok (.iload_n 1, 1) := by decide +kernel
theorem dX9_best_2 : decode cX9_best 2 = .ok (.invokevirtual 100, 3) := by decide +kernel
theorem dX9_best_5 : decode cX9_best 5 = .ok (.ifCond .ne 5, 3) := by decide +kernel
theorem dX9_best_8 : decode cX9_best 8 = .ok (.iconst (-1), 1) := by decide +kernel
theorem dX9_best_9 : decode cX9_best 9 = .ok (.ireturn, 1) := by decide +kernel
theorem dX9_best_10 : decode cX9_best 10 = .ok (.aload_n 0, 1) := by decide +kernel
theorem dX9_best_11 : decode cX9_best 11 = .ok (.iload_n 1, 1) := by decide +kernel
theorem dX9_best_12 : decode cX9_best 12 = .ok (.invokevirtual 153, 3) := by decide +kernel
theorem dX9_best_15 : decode cX9_best 15 = .ok (.istore_n 2, 1) := by decide +kernel
theorem dX9_best_16 : decode cX9_best 16 = .ok (.iload_n 2, 1) := by decide +kernel
theorem dX9_best_17 : decode cX9_best 17 = .ok (.ifCond .ge 8, 3) := by decide +kernel
theorem dX9_best_20 : decode cX9_best 20 = .ok (.bipush (-3), 2) := by decide +kernel
theorem dX9_best_22 : decode cX9_best 22 = .ok (.goto 4, 3) := by decide +kernel
theorem dX9_best_25 : decode cX9_best 25 = .ok (.iload_n 2, 1) := by decide +kernel
theorem dX9_best_26 : decode cX9_best 26 = .ok (.ireturn, 1) := by decide +kernel
theorem dX9_partOf_0 : decode cX9_partOf 0 = .ok (.aload_n 0, 1) := by decide +kernel
theorem dX9_partOf_1 : decode cX9_partOf 1 = .ok (.iload_n 1, 1) := by decide +kernel
theorem dX9_partOf_2 : decode cX9_partOf 2 = .ok (.iconst 0, 1) := by decide +kernel
theorem dX9_partOf_3 : decode cX9_partOf 3 = .ok (.aload_n 0, 1) := by decide +kernel
theorem dX9_partOf_4 : decode cX9_partOf 4 = .ok (.iload_n 1, 1) := by decide +kernel
theorem dX9_partOf_5 : decode cX9_partOf 5 = .ok (.invokevirtual 104, 3) := by decide +kernel
theorem dX9_partOf_8 : decode cX9_partOf 8 = .ok (.iload_n 2, 1) := by decide +kernel
theorem dX9_partOf_9 : decode cX9_partOf 9 = .ok (.isub, 1) := by decide +kernel
theorem dX9_partOf_10 : decode cX9_partOf 10 = .ok (.invokevirtual 143, 3) := by decide +kernel
theorem dX9_partOf_13 : decode cX9_partOf 13 = .ok (.lreturn, 1) := by decide +kernel
theorem dX9_divisor_0 : decode cX9_divisor 0 = .ok (.lload_n 0, 1) := by decide +kernel
theorem dX9_divisor_1 : decode cX9_divisor 1 = .ok (.lstore 4, 2) := by decide +kernel
theorem dX9_divisor_3 : decode cX9_divisor 3 = .ok (.lload_n 2, 1) := by decide +kernel
theorem dX9_divisor_4 : decode cX9_divisor 4 = .ok (.lstore 6, 2) := by decide +kernel
theorem dX9_divisor_6 : decode cX9_divisor 6 = .ok (.lload 6, 2) := by decide +kernel
theorem dX9_divisor_8 : decode cX9_divisor 8 = .ok (.lconst 0, 1) := by decide +kernel
theorem dX9_divisor_9 : decode cX9_divisor 9 = .ok (.lcmp, 1) := by decide +kernel
theorem dX9_divisor_10 : decode cX9_divisor 10 = .ok (.ifCond .eq 21, 3) := by decide +kernel
theorem dX9_divisor_13 : decode cX9_divisor 13 = .ok (.lload 4, 2) := by decide +kernel
theorem dX9_divisor_15 : decode cX9_divisor 15 = .ok (.lload 6, 2) := by decide +kernel
theorem dX9_divisor_17 : decode cX9_divisor 17 = .ok (.lrem, 1) := by decide +kernel
theorem dX9_divisor_18 : decode cX9_divisor 18 = .ok (.lstore 8, 2) := by decide +kernel
theorem dX9_divisor_20 : decode cX9_divisor 20 = .ok (.lload 6, 2) := by decide +kernel
theorem dX9_divisor_22 : decode cX9_divisor 22 = .ok (.lstore 4, 2) := by decide +kernel
theorem dX9_divisor_24 : decode cX9_divisor 24 = .ok (.lload 8, 2) := by decide +kernel
theorem dX9_divisor_26 : decode cX9_divisor 26 = .ok (.lstore 6, 2) := by decide +kernel
theorem dX9_divisor_28 : decode cX9_divisor 28 = .ok (.goto (-22), 3) := by decide +kernel
theorem dX9_divisor_31 : decode cX9_divisor 31 = .ok (.lload 4, 2) := by decide +kernel
theorem dX9_divisor_33 : decode cX9_divisor 33 = .ok (.lreturn, 1) := by decide +kernel
theorem dX9_share_0 : decode cX9_share 0 = .ok (.aload_n 0, 1) := by decide +kernel
theorem dX9_share_1 : decode cX9_share 1 = .ok (.iload_n 1, 1) := by decide +kernel
theorem dX9_share_2 : decode cX9_share 2 = .ok (.invokevirtual 100, 3) := by decide +kernel
theorem dX9_share_5 : decode cX9_share 5 = .ok (.ifCond .eq 19, 3) := by decide +kernel
theorem dX9_share_8 : decode cX9_share 8 = .ok (.iload_n 2, 1) := by decide +kernel
theorem dX9_share_9 : decode cX9_share 9 = .ok (.invokestatic 111, 3) := by decide +kernel
theorem dX9_share_12 : decode cX9_share 12 = .ok (.ifCond .eq 12, 3) := by decide +kernel
theorem dX9_share_15 : decode cX9_share 15 = .ok (.iload_n 3, 1) := by decide +kernel
theorem dX9_share_16 : decode cX9_share 16 = .ok (.iconst 0, 1) := by decide +kernel
theorem dX9_share_17 : decode cX9_share 17 = .ok (.iconst 1, 1) := by decide +kernel
theorem dX9_share_18 : decode cX9_share 18 = .ok (.invokestatic 93, 3) := by decide +kernel
theorem dX9_share_21 : decode cX9_share 21 = .ok (.ifCond .ne 7, 3) := by decide +kernel
theorem dX9_share_24 : decode cX9_share 24 = .ok (.ldc2_w 147, 3) := by decide +kernel
theorem dX9_share_27 : decode cX9_share 27 = .ok (.lreturn, 1) := by decide +kernel
theorem dX9_share_28 : decode cX9_share 28 = .ok (.aload_n 0, 1) := by decide +kernel
theorem dX9_share_29 : decode cX9_share 29 = .ok (.iload_n 1, 1) := by decide +kernel
theorem dX9_share_30 : decode cX9_share 30 = .ok (.invokevirtual 149, 3) := by decide +kernel
theorem dX9_share_33 : decode cX9_share 33 = .ok (.lstore 4, 2) := by decide +kernel
theorem dX9_share_35 : decode cX9_share 35 = .ok (.lload 4, 2) := by decide +kernel
theorem dX9_share_37 : decode cX9_share 37 = .ok (.lconst 0, 1) := by decide +kernel
theorem dX9_share_38 : decode cX9_share 38 = .ok (.lcmp, 1) := by decide +kernel
theorem dX9_share_39 : decode cX9_share 39 = .ok (.ifCond .ne 7, 3) := by decide +kernel
theorem dX9_share_42 : decode cX9_share 42 = .ok (.ldc2_w 156, 3) := by decide +kernel
theorem dX9_share_45 : decode cX9_share 45 = .ok (.lreturn, 1) := by decide +kernel
theorem dX9_share_46 : decode cX9_share 46 = .ok (.aload_n 0, 1) := by decide +kernel
theorem dX9_share_47 : decode cX9_share 47 = .ok (.iload_n 1, 1) := by decide +kernel
theorem dX9_share_48 : decode cX9_share 48 = .ok (.iload_n 2, 1) := by decide +kernel
theorem dX9_share_49 : decode cX9_share 49 = .ok (.invokevirtual 158, 3) := by decide +kernel
theorem dX9_share_52 : decode cX9_share 52 = .ok (.lstore 6, 2) := by decide +kernel
theorem dX9_share_54 : decode cX9_share 54 = .ok (.lload 6, 2) := by decide +kernel
theorem dX9_share_56 : decode cX9_share 56 = .ok (.lload 4, 2) := by decide +kernel
theorem dX9_share_58 : decode cX9_share 58 = .ok (.invokestatic 161, 3) := by decide +kernel
theorem dX9_share_61 : decode cX9_share 61 = .ok (.lstore 8, 2) := by decide +kernel
theorem dX9_share_63 : decode cX9_share 63 = .ok (.iload_n 3, 1) := by decide +kernel
theorem dX9_share_64 : decode cX9_share 64 = .ok (.ifCond .ne 11, 3) := by decide +kernel
theorem dX9_share_67 : decode cX9_share 67 = .ok (.lload 6, 2) := by decide +kernel
theorem dX9_share_69 : decode cX9_share 69 = .ok (.lload 8, 2) := by decide +kernel
theorem dX9_share_71 : decode cX9_share 71 = .ok (.ldiv, 1) := by decide +kernel
theorem dX9_share_72 : decode cX9_share 72 = .ok (.goto 8, 3) := by decide +kernel
theorem dX9_share_75 : decode cX9_share 75 = .ok (.lload 4, 2) := by decide +kernel
theorem dX9_share_77 : decode cX9_share 77 = .ok (.lload 8, 2) := by decide +kernel
theorem dX9_share_79 : decode cX9_share 79 = .ok (.ldiv, 1) := by decide +kernel
theorem dX9_share_80 : decode cX9_share 80 = .ok (.lreturn, 1) := by decide +kernel
theorem dX9_isCommon_0 : decode cX9_isCommon 0 = .ok (.iconst 1, 1) := by decide +kernel
theorem dX9_isCommon_1 : decode cX9_isCommon 1 = .ok (.istore_n 3, 1) := by decide +kernel
theorem dX9_isCommon_2 : decode cX9_isCommon 2 = .ok (.iconst 0, 1) := by decide +kernel
theorem dX9_isCommon_3 : decode cX9_isCommon 3 = .ok (.istore 4, 2) := by decide +kernel
theorem dX9_isCommon_5 : decode cX9_isCommon 5 = .ok (.iload 4, 2) := by decide +kernel
theorem dX9_isCommon_7 : decode cX9_isCommon 7 = .ok (.aload_n 0, 1) := by decide +kernel
theorem dX9_isCommon_8 : decode cX9_isCommon 8 = .ok (.getfield 97, 3) := by decide +kernel
theorem dX9_isCommon_11 : decode cX9_isCommon 11 = .ok (.if_icmp .ge 43, 3) := by decide +kernel
theorem dX9_isCommon_14 : decode cX9_isCommon 14 = .ok (.iload_n 3, 1) := by decide +kernel
theorem dX9_isCommon_15 : decode cX9_isCommon 15 = .ok (.ifCond .eq 31, 3) := by decide +kernel
theorem dX9_isCommon_18 : decode cX9_isCommon 18 = .ok (.aload_n 0, 1) := by decide +kernel
theorem dX9_isCommon_19 : decode cX9_isCommon 19 = .ok (.getfield 13, 3) := by decide +kernel
theorem dX9_isCommon_22 : decode cX9_isCommon 22 = .ok (.bipush 6, 2) := by decide +kernel
theorem dX9_isCommon_24 : decode cX9_isCommon 24 = .ok (.iload 4, 2) := by decide +kernel
theorem dX9_isCommon_26 : decode cX9_isCommon 26 = .ok (.imul, 1) := by decide +kernel
theorem dX9_isCommon_27 : decode cX9_isCommon 27 = .ok (.iaload, 1) := by decide +kernel
theorem dX9_isCommon_28 : decode cX9_isCommon 28 = .ok (.iload_n 1, 1) := by decide +kernel
theorem dX9_isCommon_29 : decode cX9_isCommon 29 = .ok (.if_icmp .ne 13, 3) := by decide +kernel
theorem dX9_isCommon_32 : decode cX9_isCommon 32 = .ok (.aload_n 0, 1) := by decide +kernel
theorem dX9_isCommon_33 : decode cX9_isCommon 33 = .ok (.iload 4, 2) := by decide +kernel
theorem dX9_isCommon_35 : decode cX9_isCommon 35 = .ok (.iload_n 2, 1) := by decide +kernel
theorem dX9_isCommon_36 : decode cX9_isCommon 36 = .ok (.invokevirtual 121, 3) := by decide +kernel
theorem dX9_isCommon_39 : decode cX9_isCommon 39 = .ok (.ifCond .eq 7, 3) := by decide +kernel
theorem dX9_isCommon_42 : decode cX9_isCommon 42 = .ok (.iconst 1, 1) := by decide +kernel
theorem dX9_isCommon_43 : decode cX9_isCommon 43 = .ok (.goto 4, 3) := by decide +kernel
theorem dX9_isCommon_46 : decode cX9_isCommon 46 = .ok (.iconst 0, 1) := by decide +kernel
theorem dX9_isCommon_47 : decode cX9_isCommon 47 = .ok (.istore_n 3, 1) := by decide +kernel
theorem dX9_isCommon_48 : decode cX9_isCommon 48 = .ok (.iinc 4 1, 3) := by decide +kernel
theorem dX9_isCommon_51 : decode cX9_isCommon 51 = .ok (.goto (-46), 3) := by decide +kernel
theorem dX9_isCommon_54 : decode cX9_isCommon 54 = .ok (.iload_n 3, 1) := by decide +kernel
theorem dX9_isCommon_55 : decode cX9_isCommon 55 = .ok (.ireturn, 1) := by decide +kernel
theorem dX9_commonOf_0 : decode cX9_commonOf 0 = .ok (.iconst 0, 1) := by decide +kernel
theorem dX9_commonOf_1 : decode cX9_commonOf 1 = .ok (.istore_n 3, 1) := by decide +kernel
theorem dX9_commonOf_2 : decode cX9_commonOf 2 = .ok (.iconst 0, 1) := by decide +kernel
theorem dX9_commonOf_3 : decode cX9_commonOf 3 = .ok (.istore 4, 2) := by decide +kernel
theorem dX9_commonOf_5 : decode cX9_commonOf 5 = .ok (.iload 4, 2) := by decide +kernel
theorem dX9_commonOf_7 : decode cX9_commonOf 7 = .ok (.sipush 161, 3) := by decide +kernel
theorem dX9_commonOf_10 : decode cX9_commonOf 10 = .ok (.if_icmp .ge 37, 3) := by decide +kernel
theorem dX9_commonOf_13 : decode cX9_commonOf 13 = .ok (.iload_n 3, 1) := by decide +kernel
theorem dX9_commonOf_14 : decode cX9_commonOf 14 = .ok (.aload_n 0, 1) := by decide +kernel
theorem dX9_commonOf_15 : decode cX9_commonOf 15 = .ok (.iload_n 1, 1) := by decide +kernel
theorem dX9_commonOf_16 : decode cX9_commonOf 16 = .ok (.iload 4, 2) := by decide +kernel
theorem dX9_commonOf_18 : decode cX9_commonOf 18 = .ok (.invokevirtual 165, 3) := by decide +kernel
theorem dX9_commonOf_21 : decode cX9_commonOf 21 = .ok (.ifCond .eq 17, 3) := by decide +kernel
theorem dX9_commonOf_24 : decode cX9_commonOf 24 = .ok (.aload_n 0, 1) := by decide +kernel
theorem dX9_commonOf_25 : decode cX9_commonOf 25 = .ok (.iload_n 2, 1) := by decide +kernel
theorem dX9_commonOf_26 : decode cX9_commonOf 26 = .ok (.iload 4, 2) := by decide +kernel
theorem dX9_commonOf_28 : decode cX9_commonOf 28 = .ok (.invokevirtual 165, 3) := by decide +kernel
theorem dX9_commonOf_31 : decode cX9_commonOf 31 = .ok (.ifCond .eq 7, 3) := by decide +kernel
theorem dX9_commonOf_34 : decode cX9_commonOf 34 = .ok (.iconst 1, 1) := by decide +kernel
theorem dX9_commonOf_35 : decode cX9_commonOf 35 = .ok (.goto 4, 3) := by decide +kernel
theorem dX9_commonOf_38 : decode cX9_commonOf 38 = .ok (.iconst 0, 1) := by decide +kernel
theorem dX9_commonOf_39 : decode cX9_commonOf 39 = .ok (.iadd, 1) := by decide +kernel
theorem dX9_commonOf_40 : decode cX9_commonOf 40 = .ok (.istore_n 3, 1) := by decide +kernel
theorem dX9_commonOf_41 : decode cX9_commonOf 41 = .ok (.iinc 4 1, 3) := by decide +kernel
theorem dX9_commonOf_44 : decode cX9_commonOf 44 = .ok (.goto (-39), 3) := by decide +kernel
theorem dX9_commonOf_47 : decode cX9_commonOf 47 = .ok (.iload_n 3, 1) := by decide +kernel
theorem dX9_commonOf_48 : decode cX9_commonOf 48 = .ok (.ireturn, 1) := by decide +kernel
theorem dX9_common_0 : decode cX9_common 0 = .ok (.aload_n 0, 1) := by decide +kernel
theorem dX9_common_1 : decode cX9_common 1 = .ok (.iload_n 1, 1) := by decide +kernel
theorem dX9_common_2 : decode cX9_common 2 = .ok (.invokevirtual 100, 3) := by decide +kernel
theorem dX9_common_5 : decode cX9_common 5 = .ok (.ifCond .eq 20, 3) := by decide +kernel
theorem dX9_common_8 : decode cX9_common 8 = .ok (.aload_n 0, 1) := by decide +kernel
theorem dX9_common_9 : decode cX9_common 9 = .ok (.iload_n 2, 1) := by decide +kernel
theorem dX9_common_10 : decode cX9_common 10 = .ok (.invokevirtual 100, 3) := by decide +kernel
theorem dX9_common_13 : decode cX9_common 13 = .ok (.ifCond .eq 12, 3) := by decide +kernel
theorem dX9_common_16 : decode cX9_common 16 = .ok (.aload_n 0, 1) := by decide +kernel
theorem dX9_common_17 : decode cX9_common 17 = .ok (.iload_n 1, 1) := by decide +kernel
theorem dX9_common_18 : decode cX9_common 18 = .ok (.iload_n 2, 1) := by decide +kernel
theorem dX9_common_19 : decode cX9_common 19 = .ok (.invokevirtual 168, 3) := by decide +kernel
theorem dX9_common_22 : decode cX9_common 22 = .ok (.goto 4, 3) := by decide +kernel
theorem dX9_common_25 : decode cX9_common 25 = .ok (.iconst (-1), 1) := by decide +kernel
theorem dX9_common_26 : decode cX9_common 26 = .ok (.ireturn, 1) := by decide +kernel
theorem dX9_one_0 : decode cX9_one 0 = .ok (.aload_n 0, 1) := by decide +kernel
theorem dX9_one_1 : decode cX9_one 1 = .ok (.iload_n 1, 1) := by decide +kernel
theorem dX9_one_2 : decode cX9_one 2 = .ok (.invokevirtual 100, 3) := by decide +kernel
theorem dX9_one_5 : decode cX9_one 5 = .ok (.ifCond .eq 16, 3) := by decide +kernel
theorem dX9_one_8 : decode cX9_one 8 = .ok (.aload_n 0, 1) := by decide +kernel
theorem dX9_one_9 : decode cX9_one 9 = .ok (.iload_n 2, 1) := by decide +kernel
theorem dX9_one_10 : decode cX9_one 10 = .ok (.invokevirtual 100, 3) := by decide +kernel
theorem dX9_one_13 : decode cX9_one 13 = .ok (.ifCond .eq 8, 3) := by decide +kernel
theorem dX9_one_16 : decode cX9_one 16 = .ok (.iload_n 1, 1) := by decide +kernel
theorem dX9_one_17 : decode cX9_one 17 = .ok (.iload_n 2, 1) := by decide +kernel
theorem dX9_one_18 : decode cX9_one 18 = .ok (.if_icmp .ne 5, 3) := by decide +kernel
theorem dX9_one_21 : decode cX9_one 21 = .ok (.iconst (-1), 1) := by decide +kernel
theorem dX9_one_22 : decode cX9_one 22 = .ok (.ireturn, 1) := by decide +kernel
theorem dX9_one_23 : decode cX9_one 23 = .ok (.aload_n 0, 1) := by decide +kernel
theorem dX9_one_24 : decode cX9_one 24 = .ok (.getfield 7, 3) := by decide +kernel
theorem dX9_one_27 : decode cX9_one 27 = .ok (.iconst 4, 1) := by decide +kernel
theorem dX9_one_28 : decode cX9_one 28 = .ok (.iload_n 1, 1) := by decide +kernel
theorem dX9_one_29 : decode cX9_one 29 = .ok (.imul, 1) := by decide +kernel
theorem dX9_one_30 : decode cX9_one 30 = .ok (.iconst 2, 1) := by decide +kernel
theorem dX9_one_31 : decode cX9_one 31 = .ok (.iadd, 1) := by decide +kernel
theorem dX9_one_32 : decode cX9_one 32 = .ok (.iaload, 1) := by decide +kernel
theorem dX9_one_33 : decode cX9_one 33 = .ok (.aload_n 0, 1) := by decide +kernel
theorem dX9_one_34 : decode cX9_one 34 = .ok (.getfield 7, 3) := by decide +kernel
theorem dX9_one_37 : decode cX9_one 37 = .ok (.iconst 4, 1) := by decide +kernel
theorem dX9_one_38 : decode cX9_one 38 = .ok (.iload_n 2, 1) := by decide +kernel
theorem dX9_one_39 : decode cX9_one 39 = .ok (.imul, 1) := by decide +kernel
theorem dX9_one_40 : decode cX9_one 40 = .ok (.iconst 2, 1) := by decide +kernel
theorem dX9_one_41 : decode cX9_one 41 = .ok (.iadd, 1) := by decide +kernel
theorem dX9_one_42 : decode cX9_one 42 = .ok (.iaload, 1) := by decide +kernel
theorem dX9_one_43 : decode cX9_one 43 = .ok (.if_icmp .ne 49, 3) := by decide +kernel
theorem dX9_one_46 : decode cX9_one 46 = .ok (.aload_n 0, 1) := by decide +kernel
theorem dX9_one_47 : decode cX9_one 47 = .ok (.getfield 7, 3) := by decide +kernel
theorem dX9_one_50 : decode cX9_one 50 = .ok (.iconst 4, 1) := by decide +kernel
theorem dX9_one_51 : decode cX9_one 51 = .ok (.iload_n 1, 1) := by decide +kernel
theorem dX9_one_52 : decode cX9_one 52 = .ok (.imul, 1) := by decide +kernel
theorem dX9_one_53 : decode cX9_one 53 = .ok (.iaload, 1) := by decide +kernel
theorem dX9_one_54 : decode cX9_one 54 = .ok (.aload_n 0, 1) := by decide +kernel
theorem dX9_one_55 : decode cX9_one 55 = .ok (.getfield 7, 3) := by decide +kernel
theorem dX9_one_58 : decode cX9_one 58 = .ok (.iconst 4, 1) := by decide +kernel
theorem dX9_one_59 : decode cX9_one 59 = .ok (.iload_n 2, 1) := by decide +kernel
theorem dX9_one_60 : decode cX9_one 60 = .ok (.imul, 1) := by decide +kernel
theorem dX9_one_61 : decode cX9_one 61 = .ok (.iaload, 1) := by decide +kernel
theorem dX9_one_62 : decode cX9_one 62 = .ok (.if_icmp .eq 26, 3) := by decide +kernel
theorem dX9_one_65 : decode cX9_one 65 = .ok (.aload_n 0, 1) := by decide +kernel
theorem dX9_one_66 : decode cX9_one 66 = .ok (.getfield 7, 3) := by decide +kernel
theorem dX9_one_69 : decode cX9_one 69 = .ok (.iconst 4, 1) := by decide +kernel
theorem dX9_one_70 : decode cX9_one 70 = .ok (.iload_n 1, 1) := by decide +kernel
theorem dX9_one_71 : decode cX9_one 71 = .ok (.imul, 1) := by decide +kernel
theorem dX9_one_72 : decode cX9_one 72 = .ok (.iconst 1, 1) := by decide +kernel
theorem dX9_one_73 : decode cX9_one 73 = .ok (.iadd, 1) := by decide +kernel
theorem dX9_one_74 : decode cX9_one 74 = .ok (.iaload, 1) := by decide +kernel
theorem dX9_one_75 : decode cX9_one 75 = .ok (.aload_n 0, 1) := by decide +kernel
theorem dX9_one_76 : decode cX9_one 76 = .ok (.getfield 7, 3) := by decide +kernel
theorem dX9_one_79 : decode cX9_one 79 = .ok (.iconst 4, 1) := by decide +kernel
theorem dX9_one_80 : decode cX9_one 80 = .ok (.iload_n 2, 1) := by decide +kernel
theorem dX9_one_81 : decode cX9_one 81 = .ok (.imul, 1) := by decide +kernel
theorem dX9_one_82 : decode cX9_one 82 = .ok (.iconst 1, 1) := by decide +kernel
theorem dX9_one_83 : decode cX9_one 83 = .ok (.iadd, 1) := by decide +kernel
theorem dX9_one_84 : decode cX9_one 84 = .ok (.iaload, 1) := by decide +kernel
theorem dX9_one_85 : decode cX9_one 85 = .ok (.if_icmp .ne 7, 3) := by decide +kernel
theorem dX9_one_88 : decode cX9_one 88 = .ok (.iconst 1, 1) := by decide +kernel
theorem dX9_one_89 : decode cX9_one 89 = .ok (.goto 4, 3) := by decide +kernel
theorem dX9_one_92 : decode cX9_one 92 = .ok (.iconst 0, 1) := by decide +kernel
theorem dX9_one_93 : decode cX9_one 93 = .ok (.istore_n 3, 1) := by decide +kernel
theorem dX9_one_94 : decode cX9_one 94 = .ok (.iload_n 3, 1) := by decide +kernel
theorem dX9_one_95 : decode cX9_one 95 = .ok (.ifCond .eq 16, 3) := by decide +kernel
theorem dX9_one_98 : decode cX9_one 98 = .ok (.aload_n 0, 1) := by decide +kernel
theorem dX9_one_99 : decode cX9_one 99 = .ok (.iload_n 1, 1) := by decide +kernel
theorem dX9_one_100 : decode cX9_one 100 = .ok (.iload_n 2, 1) := by decide +kernel
theorem dX9_one_101 : decode cX9_one 101 = .ok (.invokevirtual 168, 3) := by decide +kernel
theorem dX9_one_104 : decode cX9_one 104 = .ok (.ifCond .le 7, 3) := by decide +kernel
theorem dX9_one_107 : decode cX9_one 107 = .ok (.iconst 1, 1) := by decide +kernel
theorem dX9_one_108 : decode cX9_one 108 = .ok (.goto 4, 3) := by decide +kernel
theorem dX9_one_111 : decode cX9_one 111 = .ok (.iconst 0, 1) := by decide +kernel
theorem dX9_one_112 : decode cX9_one 112 = .ok (.ireturn, 1) := by decide +kernel
theorem dX9_orderOf_0 : decode cX9_orderOf 0 = .ok (.iconst 0, 1) := by decide +kernel
theorem dX9_orderOf_1 : decode cX9_orderOf 1 = .ok (.istore_n 2, 1) := by decide +kernel
theorem dX9_orderOf_2 : decode cX9_orderOf 2 = .ok (.iconst 0, 1) := by decide +kernel
theorem dX9_orderOf_3 : decode cX9_orderOf 3 = .ok (.istore_n 3, 1) := by decide +kernel
theorem dX9_orderOf_4 : decode cX9_orderOf 4 = .ok (.iload_n 3, 1) := by decide +kernel
theorem dX9_orderOf_5 : decode cX9_orderOf 5 = .ok (.aload_n 0, 1) := by decide +kernel
theorem dX9_orderOf_6 : decode cX9_orderOf 6 = .ok (.getfield 97, 3) := by decide +kernel
theorem dX9_orderOf_9 : decode cX9_orderOf 9 = .ok (.if_icmp .ge 96, 3) := by decide +kernel
theorem dX9_orderOf_12 : decode cX9_orderOf 12 = .ok (.aload_n 0, 1) := by decide +kernel
theorem dX9_orderOf_13 : decode cX9_orderOf 13 = .ok (.getfield 13, 3) := by decide +kernel
theorem dX9_orderOf_16 : decode cX9_orderOf 16 = .ok (.bipush 6, 2) := by decide +kernel
theorem dX9_orderOf_18 : decode cX9_orderOf 18 = .ok (.iload_n 3, 1) := by decide +kernel
theorem dX9_orderOf_19 : decode cX9_orderOf 19 = .ok (.imul, 1) := by decide +kernel
theorem dX9_orderOf_20 : decode cX9_orderOf 20 = .ok (.iaload, 1) := by decide +kernel
theorem dX9_orderOf_21 : decode cX9_orderOf 21 = .ok (.iload_n 1, 1) := by decide +kernel
theorem dX9_orderOf_22 : decode cX9_orderOf 22 = .ok (.if_icmp .ne 77, 3) := by decide +kernel
theorem dX9_orderOf_25 : decode cX9_orderOf 25 = .ok (.iload_n 2, 1) := by decide +kernel
theorem dX9_orderOf_26 : decode cX9_orderOf 26 = .ok (.istore 4, 2) := by decide +kernel
theorem dX9_orderOf_28 : decode cX9_orderOf 28 = .ok (.iload 4, 2) := by decide +kernel
theorem dX9_orderOf_30 : decode cX9_orderOf 30 = .ok (.ifCond .le 58, 3) := by decide +kernel
theorem dX9_orderOf_33 : decode cX9_orderOf 33 = .ok (.aload_n 0, 1) := by decide +kernel
theorem dX9_orderOf_34 : decode cX9_orderOf 34 = .ok (.getfield 13, 3) := by decide +kernel
theorem dX9_orderOf_37 : decode cX9_orderOf 37 = .ok (.bipush 6, 2) := by decide +kernel
theorem dX9_orderOf_39 : decode cX9_orderOf 39 = .ok (.aload_n 0, 1) := by decide +kernel
theorem dX9_orderOf_40 : decode cX9_orderOf 40 = .ok (.getfield 37, 3) := by decide +kernel
theorem dX9_orderOf_43 : decode cX9_orderOf 43 = .ok (.iload 4, 2) := by decide +kernel
theorem dX9_orderOf_45 : decode cX9_orderOf 45 = .ok (.iconst 1, 1) := by decide +kernel
theorem dX9_orderOf_46 : decode cX9_orderOf 46 = .ok (.isub, 1) := by decide +kernel
theorem dX9_orderOf_47 : decode cX9_orderOf 47 = .ok (.iaload, 1) := by decide +kernel
theorem dX9_orderOf_48 : decode cX9_orderOf 48 = .ok (.imul, 1) := by decide +kernel
theorem dX9_orderOf_49 : decode cX9_orderOf 49 = .ok (.iconst 2, 1) := by decide +kernel
theorem dX9_orderOf_50 : decode cX9_orderOf 50 = .ok (.iadd, 1) := by decide +kernel
theorem dX9_orderOf_51 : decode cX9_orderOf 51 = .ok (.iaload, 1) := by decide +kernel
theorem dX9_orderOf_52 : decode cX9_orderOf 52 = .ok (.aload_n 0, 1) := by decide +kernel
theorem dX9_orderOf_53 : decode cX9_orderOf 53 = .ok (.getfield 13, 3) := by decide +kernel
theorem dX9_orderOf_56 : decode cX9_orderOf 56 = .ok (.bipush 6, 2) := by decide +kernel
theorem dX9_orderOf_58 : decode cX9_orderOf 58 = .ok (.iload_n 3, 1) := by decide +kernel
theorem dX9_orderOf_59 : decode cX9_orderOf 59 = .ok (.imul, 1) := by decide +kernel
theorem dX9_orderOf_60 : decode cX9_orderOf 60 = .ok (.iconst 2, 1) := by decide +kernel
theorem dX9_orderOf_61 : decode cX9_orderOf 61 = .ok (.iadd, 1) := by decide +kernel
theorem dX9_orderOf_62 : decode cX9_orderOf 62 = .ok (.iaload, 1) := by decide +kernel
theorem dX9_orderOf_63 : decode cX9_orderOf 63 = .ok (.if_icmp .le 25, 3) := by decide +kernel
theorem dX9_orderOf_66 : decode cX9_orderOf 66 = .ok (.aload_n 0, 1) := by decide +kernel
theorem dX9_orderOf_67 : decode cX9_orderOf 67 = .ok (.getfield 37, 3) := by decide +kernel
theorem dX9_orderOf_70 : decode cX9_orderOf 70 = .ok (.iload 4, 2) := by decide +kernel
theorem dX9_orderOf_72 : decode cX9_orderOf 72 = .ok (.aload_n 0, 1) := by decide +kernel
theorem dX9_orderOf_73 : decode cX9_orderOf 73 = .ok (.getfield 37, 3) := by decide +kernel
theorem dX9_orderOf_76 : decode cX9_orderOf 76 = .ok (.iload 4, 2) := by decide +kernel
theorem dX9_orderOf_78 : decode cX9_orderOf 78 = .ok (.iconst 1, 1) := by decide +kernel
theorem dX9_orderOf_79 : decode cX9_orderOf 79 = .ok (.isub, 1) := by decide +kernel
theorem dX9_orderOf_80 : decode cX9_orderOf 80 = .ok (.iaload, 1) := by decide +kernel
theorem dX9_orderOf_81 : decode cX9_orderOf 81 = .ok (.iastore, 1) := by decide +kernel
theorem dX9_orderOf_82 : decode cX9_orderOf 82 = .ok (.iinc 4 (-1), 3) := by decide +kernel
theorem dX9_orderOf_85 : decode cX9_orderOf 85 = .ok (.goto (-57), 3) := by decide +kernel
theorem dX9_orderOf_88 : decode cX9_orderOf 88 = .ok (.aload_n 0, 1) := by decide +kernel
theorem dX9_orderOf_89 : decode cX9_orderOf 89 = .ok (.getfield 37, 3) := by decide +kernel
theorem dX9_orderOf_92 : decode cX9_orderOf 92 = .ok (.iload 4, 2) := by decide +kernel
theorem dX9_orderOf_94 : decode cX9_orderOf 94 = .ok (.iload_n 3, 1) := by decide +kernel
theorem dX9_orderOf_95 : decode cX9_orderOf 95 = .ok (.iastore, 1) := by decide +kernel
theorem dX9_orderOf_96 : decode cX9_orderOf 96 = .ok (.iinc 2 1, 3) := by decide +kernel
theorem dX9_orderOf_99 : decode cX9_orderOf 99 = .ok (.iinc 3 1, 3) := by decide +kernel
theorem dX9_orderOf_102 : decode cX9_orderOf 102 = .ok (.goto (-98), 3) := by decide +kernel
theorem dX9_orderOf_105 : decode cX9_orderOf 105 = .ok (.iload_n 2, 1) := by decide +kernel
theorem dX9_orderOf_106 : decode cX9_orderOf 106 = .ok (.ireturn, 1) := by decide +kernel
theorem dX9_agree_0 : decode cX9_agree 0 = .ok (.iconst 0, 1) := by decide +kernel
theorem dX9_agree_1 : decode cX9_agree 1 = .ok (.istore_n 3, 1) := by decide +kernel
theorem dX9_agree_2 : decode cX9_agree 2 = .ok (.iload_n 3, 1) := by decide +kernel
theorem dX9_agree_3 : decode cX9_agree 3 = .ok (.sipush 161, 3) := by decide +kernel
theorem dX9_agree_6 : decode cX9_agree 6 = .ok (.if_icmp .ge 61, 3) := by decide +kernel
theorem dX9_agree_9 : decode cX9_agree 9 = .ok (.iconst 1, 1) := by decide +kernel
theorem dX9_agree_10 : decode cX9_agree 10 = .ok (.istore 4, 2) := by decide +kernel
theorem dX9_agree_12 : decode cX9_agree 12 = .ok (.iload_n 1, 1) := by decide +kernel
theorem dX9_agree_13 : decode cX9_agree 13 = .ok (.istore 5, 2) := by decide +kernel
theorem dX9_agree_15 : decode cX9_agree 15 = .ok (.iload 5, 2) := by decide +kernel
theorem dX9_agree_17 : decode cX9_agree 17 = .ok (.iload_n 2, 1) := by decide +kernel
theorem dX9_agree_18 : decode cX9_agree 18 = .ok (.if_icmp .ge 36, 3) := by decide +kernel
theorem dX9_agree_21 : decode cX9_agree 21 = .ok (.iload 4, 2) := by decide +kernel
theorem dX9_agree_23 : decode cX9_agree 23 = .ok (.ifCond .eq 22, 3) := by decide +kernel
theorem dX9_agree_26 : decode cX9_agree 26 = .ok (.aload_n 0, 1) := by decide +kernel
theorem dX9_agree_27 : decode cX9_agree 27 = .ok (.aload_n 0, 1) := by decide +kernel
theorem dX9_agree_28 : decode cX9_agree 28 = .ok (.getfield 37, 3) := by decide +kernel
theorem dX9_agree_31 : decode cX9_agree 31 = .ok (.iload 5, 2) := by decide +kernel
theorem dX9_agree_33 : decode cX9_agree 33 = .ok (.iaload, 1) := by decide +kernel
theorem dX9_agree_34 : decode cX9_agree 34 = .ok (.iload_n 3, 1) := by decide +kernel
theorem dX9_agree_35 : decode cX9_agree 35 = .ok (.invokevirtual 121, 3) := by decide +kernel
theorem dX9_agree_38 : decode cX9_agree 38 = .ok (.ifCond .eq 7, 3) := by decide +kernel
theorem dX9_agree_41 : decode cX9_agree 41 = .ok (.iconst 1, 1) := by decide +kernel
theorem dX9_agree_42 : decode cX9_agree 42 = .ok (.goto 4, 3) := by decide +kernel
theorem dX9_agree_45 : decode cX9_agree 45 = .ok (.iconst 0, 1) := by decide +kernel
theorem dX9_agree_46 : decode cX9_agree 46 = .ok (.istore 4, 2) := by decide +kernel
theorem dX9_agree_48 : decode cX9_agree 48 = .ok (.iinc 5 1, 3) := by decide +kernel
theorem dX9_agree_51 : decode cX9_agree 51 = .ok (.goto (-36), 3) := by decide +kernel
theorem dX9_agree_54 : decode cX9_agree 54 = .ok (.iload 4, 2) := by decide +kernel
theorem dX9_agree_56 : decode cX9_agree 56 = .ok (.ifCond .eq 5, 3) := by decide +kernel
theorem dX9_agree_59 : decode cX9_agree 59 = .ok (.iconst 1, 1) := by decide +kernel
theorem dX9_agree_60 : decode cX9_agree 60 = .ok (.ireturn, 1) := by decide +kernel
theorem dX9_agree_61 : decode cX9_agree 61 = .ok (.iinc 3 1, 3) := by decide +kernel
theorem dX9_agree_64 : decode cX9_agree 64 = .ok (.goto (-62), 3) := by decide +kernel
theorem dX9_agree_67 : decode cX9_agree 67 = .ok (.iconst 0, 1) := by decide +kernel
theorem dX9_agree_68 : decode cX9_agree 68 = .ok (.ireturn, 1) := by decide +kernel
theorem dX9_cut_0 : decode cX9_cut 0 = .ok (.aload_n 0, 1) := by decide +kernel
theorem dX9_cut_1 : decode cX9_cut 1 = .ok (.iload_n 1, 1) := by decide +kernel
theorem dX9_cut_2 : decode cX9_cut 2 = .ok (.invokevirtual 100, 3) := by decide +kernel
theorem dX9_cut_5 : decode cX9_cut 5 = .ok (.ifCond .ne 5, 3) := by decide +kernel
theorem dX9_cut_8 : decode cX9_cut 8 = .ok (.iconst (-1), 1) := by decide +kernel
theorem dX9_cut_9 : decode cX9_cut 9 = .ok (.ireturn, 1) := by decide +kernel
theorem dX9_cut_10 : decode cX9_cut 10 = .ok (.aload_n 0, 1) := by decide +kernel
theorem dX9_cut_11 : decode cX9_cut 11 = .ok (.iload_n 1, 1) := by decide +kernel
theorem dX9_cut_12 : decode cX9_cut 12 = .ok (.invokevirtual 171, 3) := by decide +kernel
theorem dX9_cut_15 : decode cX9_cut 15 = .ok (.istore_n 2, 1) := by decide +kernel
theorem dX9_cut_16 : decode cX9_cut 16 = .ok (.iconst 0, 1) := by decide +kernel
theorem dX9_cut_17 : decode cX9_cut 17 = .ok (.istore_n 3, 1) := by decide +kernel
theorem dX9_cut_18 : decode cX9_cut 18 = .ok (.iload_n 3, 1) := by decide +kernel
theorem dX9_cut_19 : decode cX9_cut 19 = .ok (.iload_n 2, 1) := by decide +kernel
theorem dX9_cut_20 : decode cX9_cut 20 = .ok (.if_icmp .ge 33, 3) := by decide +kernel
theorem dX9_cut_23 : decode cX9_cut 23 = .ok (.aload_n 0, 1) := by decide +kernel
theorem dX9_cut_24 : decode cX9_cut 24 = .ok (.iload_n 3, 1) := by decide +kernel
theorem dX9_cut_25 : decode cX9_cut 25 = .ok (.iload_n 2, 1) := by decide +kernel
theorem dX9_cut_26 : decode cX9_cut 26 = .ok (.invokevirtual 174, 3) := by decide +kernel
theorem dX9_cut_29 : decode cX9_cut 29 = .ok (.ifCond .eq 18, 3) := by decide +kernel
theorem dX9_cut_32 : decode cX9_cut 32 = .ok (.iload_n 3, 1) := by decide +kernel
theorem dX9_cut_33 : decode cX9_cut 33 = .ok (.ifCond .eq 12, 3) := by decide +kernel
theorem dX9_cut_36 : decode cX9_cut 36 = .ok (.aload_n 0, 1) := by decide +kernel
theorem dX9_cut_37 : decode cX9_cut 37 = .ok (.iconst 0, 1) := by decide +kernel
theorem dX9_cut_38 : decode cX9_cut 38 = .ok (.iload_n 3, 1) := by decide +kernel
theorem dX9_cut_39 : decode cX9_cut 39 = .ok (.invokevirtual 174, 3) := by decide +kernel
theorem dX9_cut_42 : decode cX9_cut 42 = .ok (.ifCond .eq 5, 3) := by decide +kernel
theorem dX9_cut_45 : decode cX9_cut 45 = .ok (.iload_n 3, 1) := by decide +kernel
theorem dX9_cut_46 : decode cX9_cut 46 = .ok (.ireturn, 1) := by decide +kernel
theorem dX9_cut_47 : decode cX9_cut 47 = .ok (.iinc 3 1, 3) := by decide +kernel
theorem dX9_cut_50 : decode cX9_cut 50 = .ok (.goto (-32), 3) := by decide +kernel
theorem dX9_cut_53 : decode cX9_cut 53 = .ok (.bipush (-3), 2) := by decide +kernel
theorem dX9_cut_55 : decode cX9_cut 55 = .ok (.ireturn, 1) := by decide +kernel
theorem dX9_rest_0 : decode cX9_rest 0 = .ok (.aload_n 0, 1) := by decide +kernel
theorem dX9_rest_1 : decode cX9_rest 1 = .ok (.iload_n 1, 1) := by decide +kernel
theorem dX9_rest_2 : decode cX9_rest 2 = .ok (.invokevirtual 114, 3) := by decide +kernel
theorem dX9_rest_5 : decode cX9_rest 5 = .ok (.ifCond .eq 16, 3) := by decide +kernel
theorem dX9_rest_8 : decode cX9_rest 8 = .ok (.aload_n 0, 1) := by decide +kernel
theorem dX9_rest_9 : decode cX9_rest 9 = .ok (.iload_n 2, 1) := by decide +kernel
theorem dX9_rest_10 : decode cX9_rest 10 = .ok (.invokevirtual 114, 3) := by decide +kernel
theorem dX9_rest_13 : decode cX9_rest 13 = .ok (.ifCond .eq 8, 3) := by decide +kernel
theorem dX9_rest_16 : decode cX9_rest 16 = .ok (.iload_n 1, 1) := by decide +kernel
theorem dX9_rest_17 : decode cX9_rest 17 = .ok (.iload_n 2, 1) := by decide +kernel
theorem dX9_rest_18 : decode cX9_rest 18 = .ok (.if_icmp .ne 5, 3) := by decide +kernel
theorem dX9_rest_21 : decode cX9_rest 21 = .ok (.iconst (-1), 1) := by decide +kernel
theorem dX9_rest_22 : decode cX9_rest 22 = .ok (.ireturn, 1) := by decide +kernel
theorem dX9_rest_23 : decode cX9_rest 23 = .ok (.iconst 0, 1) := by decide +kernel
theorem dX9_rest_24 : decode cX9_rest 24 = .ok (.istore_n 3, 1) := by decide +kernel
theorem dX9_rest_25 : decode cX9_rest 25 = .ok (.iload_n 3, 1) := by decide +kernel
theorem dX9_rest_26 : decode cX9_rest 26 = .ok (.aload_n 0, 1) := by decide +kernel
theorem dX9_rest_27 : decode cX9_rest 27 = .ok (.getfield 177, 3) := by decide +kernel
theorem dX9_rest_30 : decode cX9_rest 30 = .ok (.if_icmp .ge 38, 3) := by decide +kernel
theorem dX9_rest_33 : decode cX9_rest 33 = .ok (.aload_n 0, 1) := by decide +kernel
theorem dX9_rest_34 : decode cX9_rest 34 = .ok (.getfield 19, 3) := by decide +kernel
theorem dX9_rest_37 : decode cX9_rest 37 = .ok (.iconst 2, 1) := by decide +kernel
theorem dX9_rest_38 : decode cX9_rest 38 = .ok (.iload_n 3, 1) := by decide +kernel
theorem dX9_rest_39 : decode cX9_rest 39 = .ok (.imul, 1) := by decide +kernel
theorem dX9_rest_40 : decode cX9_rest 40 = .ok (.iaload, 1) := by decide +kernel
theorem dX9_rest_41 : decode cX9_rest 41 = .ok (.iload_n 1, 1) := by decide +kernel
theorem dX9_rest_42 : decode cX9_rest 42 = .ok (.if_icmp .ne 20, 3) := by decide +kernel
theorem dX9_rest_45 : decode cX9_rest 45 = .ok (.aload_n 0, 1) := by decide +kernel
theorem dX9_rest_46 : decode cX9_rest 46 = .ok (.getfield 19, 3) := by decide +kernel
theorem dX9_rest_49 : decode cX9_rest 49 = .ok (.iconst 2, 1) := by decide +kernel
theorem dX9_rest_50 : decode cX9_rest 50 = .ok (.iload_n 3, 1) := by decide +kernel
theorem dX9_rest_51 : decode cX9_rest 51 = .ok (.imul, 1) := by decide +kernel
theorem dX9_rest_52 : decode cX9_rest 52 = .ok (.iconst 1, 1) := by decide +kernel
theorem dX9_rest_53 : decode cX9_rest 53 = .ok (.iadd, 1) := by decide +kernel
theorem dX9_rest_54 : decode cX9_rest 54 = .ok (.iaload, 1) := by decide +kernel
theorem dX9_rest_55 : decode cX9_rest 55 = .ok (.iload_n 2, 1) := by decide +kernel
theorem dX9_rest_56 : decode cX9_rest 56 = .ok (.if_icmp .ne 6, 3) := by decide +kernel
theorem dX9_rest_59 : decode cX9_rest 59 = .ok (.bipush (-4), 2) := by decide +kernel
theorem dX9_rest_61 : decode cX9_rest 61 = .ok (.ireturn, 1) := by decide +kernel
theorem dX9_rest_62 : decode cX9_rest 62 = .ok (.iinc 3 1, 3) := by decide +kernel
theorem dX9_rest_65 : decode cX9_rest 65 = .ok (.goto (-40), 3) := by decide +kernel
theorem dX9_rest_68 : decode cX9_rest 68 = .ok (.aload_n 0, 1) := by decide +kernel
theorem dX9_rest_69 : decode cX9_rest 69 = .ok (.getfield 177, 3) := by decide +kernel
theorem dX9_rest_72 : decode cX9_rest 72 = .ok (.bipush 40, 2) := by decide +kernel
theorem dX9_rest_74 : decode cX9_rest 74 = .ok (.if_icmp .ne 6, 3) := by decide +kernel
theorem dX9_rest_77 : decode cX9_rest 77 = .ok (.bipush (-2), 2) := by decide +kernel
theorem dX9_rest_79 : decode cX9_rest 79 = .ok (.ireturn, 1) := by decide +kernel
theorem dX9_rest_80 : decode cX9_rest 80 = .ok (.aload_n 0, 1) := by decide +kernel
theorem dX9_rest_81 : decode cX9_rest 81 = .ok (.getfield 19, 3) := by decide +kernel
theorem dX9_rest_84 : decode cX9_rest 84 = .ok (.iconst 2, 1) := by decide +kernel
theorem dX9_rest_85 : decode cX9_rest 85 = .ok (.aload_n 0, 1) := by decide +kernel
theorem dX9_rest_86 : decode cX9_rest 86 = .ok (.getfield 177, 3) := by decide +kernel
theorem dX9_rest_89 : decode cX9_rest 89 = .ok (.imul, 1) := by decide +kernel
theorem dX9_rest_90 : decode cX9_rest 90 = .ok (.iload_n 1, 1) := by decide +kernel
theorem dX9_rest_91 : decode cX9_rest 91 = .ok (.iastore, 1) := by decide +kernel
theorem dX9_rest_92 : decode cX9_rest 92 = .ok (.aload_n 0, 1) := by decide +kernel
theorem dX9_rest_93 : decode cX9_rest 93 = .ok (.getfield 19, 3) := by decide +kernel
theorem dX9_rest_96 : decode cX9_rest 96 = .ok (.iconst 2, 1) := by decide +kernel
theorem dX9_rest_97 : decode cX9_rest 97 = .ok (.aload_n 0, 1) := by decide +kernel
theorem dX9_rest_98 : decode cX9_rest 98 = .ok (.getfield 177, 3) := by decide +kernel
theorem dX9_rest_101 : decode cX9_rest 101 = .ok (.imul, 1) := by decide +kernel
theorem dX9_rest_102 : decode cX9_rest 102 = .ok (.iconst 1, 1) := by decide +kernel
theorem dX9_rest_103 : decode cX9_rest 103 = .ok (.iadd, 1) := by decide +kernel
theorem dX9_rest_104 : decode cX9_rest 104 = .ok (.iload_n 2, 1) := by decide +kernel
theorem dX9_rest_105 : decode cX9_rest 105 = .ok (.iastore, 1) := by decide +kernel
theorem dX9_rest_106 : decode cX9_rest 106 = .ok (.aload_n 0, 1) := by decide +kernel
theorem dX9_rest_107 : decode cX9_rest 107 = .ok (.dup, 1) := by decide +kernel
theorem dX9_rest_108 : decode cX9_rest 108 = .ok (.getfield 177, 3) := by decide +kernel
theorem dX9_rest_111 : decode cX9_rest 111 = .ok (.iconst 1, 1) := by decide +kernel
theorem dX9_rest_112 : decode cX9_rest 112 = .ok (.iadd, 1) := by decide +kernel
theorem dX9_rest_113 : decode cX9_rest 113 = .ok (.putfield 177, 3) := by decide +kernel
theorem dX9_rest_116 : decode cX9_rest 116 = .ok (.aload_n 0, 1) := by decide +kernel
theorem dX9_rest_117 : decode cX9_rest 117 = .ok (.getfield 177, 3) := by decide +kernel
theorem dX9_rest_120 : decode cX9_rest 120 = .ok (.ireturn, 1) := by decide +kernel
theorem dX9_under_0 : decode cX9_under 0 = .ok (.aload_n 0, 1) := by decide +kernel
theorem dX9_under_1 : decode cX9_under 1 = .ok (.getfield 13, 3) := by decide +kernel
theorem dX9_under_4 : decode cX9_under 4 = .ok (.bipush 6, 2) := by decide +kernel
theorem dX9_under_6 : decode cX9_under 6 = .ok (.iload_n 1, 1) := by decide +kernel
theorem dX9_under_7 : decode cX9_under 7 = .ok (.imul, 1) := by decide +kernel
theorem dX9_under_8 : decode cX9_under 8 = .ok (.iconst 5, 1) := by decide +kernel
theorem dX9_under_9 : decode cX9_under 9 = .ok (.iadd, 1) := by decide +kernel
theorem dX9_under_10 : decode cX9_under 10 = .ok (.iaload, 1) := by decide +kernel
theorem dX9_under_11 : decode cX9_under 11 = .ok (.ifCond .lt 19, 3) := by decide +kernel
theorem dX9_under_14 : decode cX9_under 14 = .ok (.iconst 1, 1) := by decide +kernel
theorem dX9_under_15 : decode cX9_under 15 = .ok (.aload_n 0, 1) := by decide +kernel
theorem dX9_under_16 : decode cX9_under 16 = .ok (.getfield 13, 3) := by decide +kernel
theorem dX9_under_19 : decode cX9_under 19 = .ok (.bipush 6, 2) := by decide +kernel
theorem dX9_under_21 : decode cX9_under 21 = .ok (.iload_n 1, 1) := by decide +kernel
theorem dX9_under_22 : decode cX9_under 22 = .ok (.imul, 1) := by decide +kernel
theorem dX9_under_23 : decode cX9_under 23 = .ok (.iconst 5, 1) := by decide +kernel
theorem dX9_under_24 : decode cX9_under 24 = .ok (.iadd, 1) := by decide +kernel
theorem dX9_under_25 : decode cX9_under 25 = .ok (.iaload, 1) := by decide +kernel
theorem dX9_under_26 : decode cX9_under 26 = .ok (.ishl, 1) := by decide +kernel
theorem dX9_under_27 : decode cX9_under 27 = .ok (.goto 4, 3) := by decide +kernel
theorem dX9_under_30 : decode cX9_under 30 = .ok (.iconst 0, 1) := by decide +kernel
theorem dX9_under_31 : decode cX9_under 31 = .ok (.istore_n 2, 1) := by decide +kernel
theorem dX9_under_32 : decode cX9_under 32 = .ok (.iconst 0, 1) := by decide +kernel
theorem dX9_under_33 : decode cX9_under 33 = .ok (.istore_n 3, 1) := by decide +kernel
theorem dX9_under_34 : decode cX9_under 34 = .ok (.iload_n 3, 1) := by decide +kernel
theorem dX9_under_35 : decode cX9_under 35 = .ok (.aload_n 0, 1) := by decide +kernel
theorem dX9_under_36 : decode cX9_under 36 = .ok (.getfield 177, 3) := by decide +kernel
theorem dX9_under_39 : decode cX9_under 39 = .ok (.if_icmp .ge 40, 3) := by decide +kernel
theorem dX9_under_42 : decode cX9_under 42 = .ok (.iload_n 2, 1) := by decide +kernel
theorem dX9_under_43 : decode cX9_under 43 = .ok (.aload_n 0, 1) := by decide +kernel
theorem dX9_under_44 : decode cX9_under 44 = .ok (.getfield 19, 3) := by decide +kernel
theorem dX9_under_47 : decode cX9_under 47 = .ok (.iconst 2, 1) := by decide +kernel
theorem dX9_under_48 : decode cX9_under 48 = .ok (.iload_n 3, 1) := by decide +kernel
theorem dX9_under_49 : decode cX9_under 49 = .ok (.imul, 1) := by decide +kernel
theorem dX9_under_50 : decode cX9_under 50 = .ok (.iaload, 1) := by decide +kernel
theorem dX9_under_51 : decode cX9_under 51 = .ok (.iload_n 1, 1) := by decide +kernel
theorem dX9_under_52 : decode cX9_under 52 = .ok (.if_icmp .ne 18, 3) := by decide +kernel
theorem dX9_under_55 : decode cX9_under 55 = .ok (.iconst 1, 1) := by decide +kernel
theorem dX9_under_56 : decode cX9_under 56 = .ok (.aload_n 0, 1) := by decide +kernel
theorem dX9_under_57 : decode cX9_under 57 = .ok (.getfield 19, 3) := by decide +kernel
theorem dX9_under_60 : decode cX9_under 60 = .ok (.iconst 2, 1) := by decide +kernel
theorem dX9_under_61 : decode cX9_under 61 = .ok (.iload_n 3, 1) := by decide +kernel
theorem dX9_under_62 : decode cX9_under 62 = .ok (.imul, 1) := by decide +kernel
theorem dX9_under_63 : decode cX9_under 63 = .ok (.iconst 1, 1) := by decide +kernel
theorem dX9_under_64 : decode cX9_under 64 = .ok (.iadd, 1) := by decide +kernel
theorem dX9_under_65 : decode cX9_under 65 = .ok (.iaload, 1) := by decide +kernel
theorem dX9_under_66 : decode cX9_under 66 = .ok (.ishl, 1) := by decide +kernel
theorem dX9_under_67 : decode cX9_under 67 = .ok (.goto 4, 3) := by decide +kernel
theorem dX9_under_70 : decode cX9_under 70 = .ok (.iconst 0, 1) := by decide +kernel
theorem dX9_under_71 : decode cX9_under 71 = .ok (.ior, 1) := by decide +kernel
theorem dX9_under_72 : decode cX9_under 72 = .ok (.istore_n 2, 1) := by decide +kernel
theorem dX9_under_73 : decode cX9_under 73 = .ok (.iinc 3 1, 3) := by decide +kernel
theorem dX9_under_76 : decode cX9_under 76 = .ok (.goto (-42), 3) := by decide +kernel
theorem dX9_under_79 : decode cX9_under 79 = .ok (.iload_n 2, 1) := by decide +kernel
theorem dX9_under_80 : decode cX9_under 80 = .ok (.ireturn, 1) := by decide +kernel
theorem dX9_standing_0 : decode cX9_standing 0 = .ok (.iconst 0, 1) := by decide +kernel
theorem dX9_standing_1 : decode cX9_standing 1 = .ok (.istore_n 1, 1) := by decide +kernel
theorem dX9_standing_2 : decode cX9_standing 2 = .ok (.iconst 1, 1) := by decide +kernel
theorem dX9_standing_3 : decode cX9_standing 3 = .ok (.istore_n 2, 1) := by decide +kernel
theorem dX9_standing_4 : decode cX9_standing 4 = .ok (.iload_n 2, 1) := by decide +kernel
theorem dX9_standing_5 : decode cX9_standing 5 = .ok (.ifCond .eq 59, 3) := by decide +kernel
theorem dX9_standing_8 : decode cX9_standing 8 = .ok (.iconst 0, 1) := by decide +kernel
theorem dX9_standing_9 : decode cX9_standing 9 = .ok (.istore_n 2, 1) := by decide +kernel
theorem dX9_standing_10 : decode cX9_standing 10 = .ok (.iconst 0, 1) := by decide +kernel
theorem dX9_standing_11 : decode cX9_standing 11 = .ok (.istore_n 3, 1) := by decide +kernel
theorem dX9_standing_12 : decode cX9_standing 12 = .ok (.iload_n 3, 1) := by decide +kernel
theorem dX9_standing_13 : decode cX9_standing 13 = .ok (.aload_n 0, 1) := by decide +kernel
theorem dX9_standing_14 : decode cX9_standing 14 = .ok (.getfield 97, 3) := by decide +kernel
theorem dX9_standing_17 : decode cX9_standing 17 = .ok (.if_icmp .ge 44, 3) := by decide +kernel
theorem dX9_standing_20 : decode cX9_standing 20 = .ok (.aload_n 0, 1) := by decide +kernel
theorem dX9_standing_21 : decode cX9_standing 21 = .ok (.iload_n 3, 1) := by decide +kernel
theorem dX9_standing_22 : decode cX9_standing 22 = .ok (.invokevirtual 180, 3) := by decide +kernel
theorem dX9_standing_25 : decode cX9_standing 25 = .ok (.istore 4, 2) := by decide +kernel
theorem dX9_standing_27 : decode cX9_standing 27 = .ok (.iload_n 1, 1) := by decide +kernel
theorem dX9_standing_28 : decode cX9_standing 28 = .ok (.iload_n 3, 1) := by decide +kernel
theorem dX9_standing_29 : decode cX9_standing 29 = .ok (.ishr, 1) := by decide +kernel
theorem dX9_standing_30 : decode cX9_standing 30 = .ok (.iconst 1, 1) := by decide +kernel
theorem dX9_standing_31 : decode cX9_standing 31 = .ok (.iand, 1) := by decide +kernel
theorem dX9_standing_32 : decode cX9_standing 32 = .ok (.ifCond .ne 23, 3) := by decide +kernel
theorem dX9_standing_35 : decode cX9_standing 35 = .ok (.iload 4, 2) := by decide +kernel
theorem dX9_standing_37 : decode cX9_standing 37 = .ok (.ifCond .eq 10, 3) := by decide +kernel
theorem dX9_standing_40 : decode cX9_standing 40 = .ok (.iload 4, 2) := by decide +kernel
theorem dX9_standing_42 : decode cX9_standing 42 = .ok (.iload_n 1, 1) := by decide +kernel
theorem dX9_standing_43 : decode cX9_standing 43 = .ok (.iand, 1) := by decide +kernel
theorem dX9_standing_44 : decode cX9_standing 44 = .ok (.ifCond .eq 11, 3) := by decide +kernel
theorem dX9_standing_47 : decode cX9_standing 47 = .ok (.iload_n 1, 1) := by decide +kernel
theorem dX9_standing_48 : decode cX9_standing 48 = .ok (.iconst 1, 1) := by decide +kernel
theorem dX9_standing_49 : decode cX9_standing 49 = .ok (.iload_n 3, 1) := by decide +kernel
theorem dX9_standing_50 : decode cX9_standing 50 = .ok (.ishl, 1) := by decide +kernel
theorem dX9_standing_51 : decode cX9_standing 51 = .ok (.ior, 1) := by decide +kernel
theorem dX9_standing_52 : decode cX9_standing 52 = .ok (.istore_n 1, 1) := by decide +kernel
theorem dX9_standing_53 : decode cX9_standing 53 = .ok (.iconst 1, 1) := by decide +kernel
theorem dX9_standing_54 : decode cX9_standing 54 = .ok (.istore_n 2, 1) := by decide +kernel
theorem dX9_standing_55 : decode cX9_standing 55 = .ok (.iinc 3 1, 3) := by decide +kernel
theorem dX9_standing_58 : decode cX9_standing 58 = .ok (.goto (-46), 3) := by decide +kernel
theorem dX9_standing_61 : decode cX9_standing 61 = .ok (.goto (-57), 3) := by decide +kernel
theorem dX9_standing_64 : decode cX9_standing 64 = .ok (.iload_n 1, 1) := by decide +kernel
theorem dX9_standing_65 : decode cX9_standing 65 = .ok (.ireturn, 1) := by decide +kernel
theorem dX9_stands_0 : decode cX9_stands 0 = .ok (.aload_n 0, 1) := by decide +kernel
theorem dX9_stands_1 : decode cX9_stands 1 = .ok (.invokevirtual 183, 3) := by decide +kernel
theorem dX9_stands_4 : decode cX9_stands 4 = .ok (.ireturn, 1) := by decide +kernel
theorem dX9_below_0 : decode cX9_below 0 = .ok (.aload_n 0, 1) := by decide +kernel
theorem dX9_below_1 : decode cX9_below 1 = .ok (.iload_n 1, 1) := by decide +kernel
theorem dX9_below_2 : decode cX9_below 2 = .ok (.invokevirtual 180, 3) := by decide +kernel
theorem dX9_below_5 : decode cX9_below 5 = .ok (.istore_n 2, 1) := by decide +kernel
theorem dX9_below_6 : decode cX9_below 6 = .ok (.iconst 1, 1) := by decide +kernel
theorem dX9_below_7 : decode cX9_below 7 = .ok (.istore_n 3, 1) := by decide +kernel
theorem dX9_below_8 : decode cX9_below 8 = .ok (.iload_n 3, 1) := by decide +kernel
theorem dX9_below_9 : decode cX9_below 9 = .ok (.ifCond .eq 62, 3) := by decide +kernel
theorem dX9_below_12 : decode cX9_below 12 = .ok (.iload_n 2, 1) := by decide +kernel
theorem dX9_below_13 : decode cX9_below 13 = .ok (.istore 4, 2) := by decide +kernel
theorem dX9_below_15 : decode cX9_below 15 = .ok (.iconst 0, 1) := by decide +kernel
theorem dX9_below_16 : decode cX9_below 16 = .ok (.istore 5, 2) := by decide +kernel
theorem dX9_below_18 : decode cX9_below 18 = .ok (.iload 5, 2) := by decide +kernel
theorem dX9_below_20 : decode cX9_below 20 = .ok (.aload_n 0, 1) := by decide +kernel
theorem dX9_below_21 : decode cX9_below 21 = .ok (.getfield 97, 3) := by decide +kernel
theorem dX9_below_24 : decode cX9_below 24 = .ok (.if_icmp .ge 32, 3) := by decide +kernel
theorem dX9_below_27 : decode cX9_below 27 = .ok (.iload_n 2, 1) := by decide +kernel
theorem dX9_below_28 : decode cX9_below 28 = .ok (.iload_n 2, 1) := by decide +kernel
theorem dX9_below_29 : decode cX9_below 29 = .ok (.iload 5, 2) := by decide +kernel
theorem dX9_below_31 : decode cX9_below 31 = .ok (.ishr, 1) := by decide +kernel
theorem dX9_below_32 : decode cX9_below 32 = .ok (.iconst 1, 1) := by decide +kernel
theorem dX9_below_33 : decode cX9_below 33 = .ok (.iand, 1) := by decide +kernel
theorem dX9_below_34 : decode cX9_below 34 = .ok (.iconst 1, 1) := by decide +kernel
theorem dX9_below_35 : decode cX9_below 35 = .ok (.if_icmp .ne 12, 3) := by decide +kernel
theorem dX9_below_38 : decode cX9_below 38 = .ok (.aload_n 0, 1) := by decide +kernel
theorem dX9_below_39 : decode cX9_below 39 = .ok (.iload 5, 2) := by decide +kernel
theorem dX9_below_41 : decode cX9_below 41 = .ok (.invokevirtual 180, 3) := by decide +kernel
theorem dX9_below_44 : decode cX9_below 44 = .ok (.goto 4, 3) := by decide +kernel
theorem dX9_below_47 : decode cX9_below 47 = .ok (.iconst 0, 1) := by decide +kernel
theorem dX9_below_48 : decode cX9_below 48 = .ok (.ior, 1) := by decide +kernel
theorem dX9_below_49 : decode cX9_below 49 = .ok (.istore_n 2, 1) := by decide +kernel
theorem dX9_below_50 : decode cX9_below 50 = .ok (.iinc 5 1, 3) := by decide +kernel
theorem dX9_below_53 : decode cX9_below 53 = .ok (.goto (-35), 3) := by decide +kernel
theorem dX9_below_56 : decode cX9_below 56 = .ok (.iload_n 2, 1) := by decide +kernel
theorem dX9_below_57 : decode cX9_below 57 = .ok (.iload 4, 2) := by decide +kernel
theorem dX9_below_59 : decode cX9_below 59 = .ok (.if_icmp .eq 7, 3) := by decide +kernel
theorem dX9_below_62 : decode cX9_below 62 = .ok (.iconst 1, 1) := by decide +kernel
theorem dX9_below_63 : decode cX9_below 63 = .ok (.goto 4, 3) := by decide +kernel
theorem dX9_below_66 : decode cX9_below 66 = .ok (.iconst 0, 1) := by decide +kernel
theorem dX9_below_67 : decode cX9_below 67 = .ok (.istore_n 3, 1) := by decide +kernel
theorem dX9_below_68 : decode cX9_below 68 = .ok (.goto (-60), 3) := by decide +kernel
theorem dX9_below_71 : decode cX9_below 71 = .ok (.iload_n 2, 1) := by decide +kernel
theorem dX9_below_72 : decode cX9_below 72 = .ok (.ireturn, 1) := by decide +kernel
theorem dX9_round_0 : decode cX9_round 0 = .ok (.aload_n 0, 1) := by decide +kernel
theorem dX9_round_1 : decode cX9_round 1 = .ok (.iload_n 1, 1) := by decide +kernel
theorem dX9_round_2 : decode cX9_round 2 = .ok (.invokevirtual 114, 3) := by decide +kernel
theorem dX9_round_5 : decode cX9_round 5 = .ok (.ifCond .eq 15, 3) := by decide +kernel
theorem dX9_round_8 : decode cX9_round 8 = .ok (.aload_n 0, 1) := by decide +kernel
theorem dX9_round_9 : decode cX9_round 9 = .ok (.iload_n 1, 1) := by decide +kernel
theorem dX9_round_10 : decode cX9_round 10 = .ok (.invokevirtual 187, 3) := by decide +kernel
theorem dX9_round_13 : decode cX9_round 13 = .ok (.iload_n 1, 1) := by decide +kernel
theorem dX9_round_14 : decode cX9_round 14 = .ok (.ishr, 1) := by decide +kernel
theorem dX9_round_15 : decode cX9_round 15 = .ok (.iconst 1, 1) := by decide +kernel
theorem dX9_round_16 : decode cX9_round 16 = .ok (.iand, 1) := by decide +kernel
theorem dX9_round_17 : decode cX9_round 17 = .ok (.goto 4, 3) := by decide +kernel
theorem dX9_round_20 : decode cX9_round 20 = .ok (.iconst (-1), 1) := by decide +kernel
theorem dX9_round_21 : decode cX9_round 21 = .ok (.ireturn, 1) := by decide +kernel
theorem dX9_roots_0 : decode cX9_roots 0 = .ok (.aload_n 0, 1) := by decide +kernel
theorem dX9_roots_1 : decode cX9_roots 1 = .ok (.iload_n 1, 1) := by decide +kernel
theorem dX9_roots_2 : decode cX9_roots 2 = .ok (.invokevirtual 114, 3) := by decide +kernel
theorem dX9_roots_5 : decode cX9_roots 5 = .ok (.ifCond .ne 5, 3) := by decide +kernel
theorem dX9_roots_8 : decode cX9_roots 8 = .ok (.iconst (-1), 1) := by decide +kernel
theorem dX9_roots_9 : decode cX9_roots 9 = .ok (.ireturn, 1) := by decide +kernel
theorem dX9_roots_10 : decode cX9_roots 10 = .ok (.aload_n 0, 1) := by decide +kernel
theorem dX9_roots_11 : decode cX9_roots 11 = .ok (.iload_n 1, 1) := by decide +kernel
theorem dX9_roots_12 : decode cX9_roots 12 = .ok (.invokevirtual 187, 3) := by decide +kernel
theorem dX9_roots_15 : decode cX9_roots 15 = .ok (.iconst 1, 1) := by decide +kernel
theorem dX9_roots_16 : decode cX9_roots 16 = .ok (.iload_n 1, 1) := by decide +kernel
theorem dX9_roots_17 : decode cX9_roots 17 = .ok (.ishl, 1) := by decide +kernel
theorem dX9_roots_18 : decode cX9_roots 18 = .ok (.ior, 1) := by decide +kernel
theorem dX9_roots_19 : decode cX9_roots 19 = .ok (.istore_n 2, 1) := by decide +kernel
theorem dX9_roots_20 : decode cX9_roots 20 = .ok (.iconst 0, 1) := by decide +kernel
theorem dX9_roots_21 : decode cX9_roots 21 = .ok (.istore_n 3, 1) := by decide +kernel
theorem dX9_roots_22 : decode cX9_roots 22 = .ok (.iconst 0, 1) := by decide +kernel
theorem dX9_roots_23 : decode cX9_roots 23 = .ok (.istore 4, 2) := by decide +kernel
theorem dX9_roots_25 : decode cX9_roots 25 = .ok (.iload 4, 2) := by decide +kernel
theorem dX9_roots_27 : decode cX9_roots 27 = .ok (.aload_n 0, 1) := by decide +kernel
theorem dX9_roots_28 : decode cX9_roots 28 = .ok (.getfield 97, 3) := by decide +kernel
theorem dX9_roots_31 : decode cX9_roots 31 = .ok (.if_icmp .ge 39, 3) := by decide +kernel
theorem dX9_roots_34 : decode cX9_roots 34 = .ok (.iload_n 3, 1) := by decide +kernel
theorem dX9_roots_35 : decode cX9_roots 35 = .ok (.iload_n 2, 1) := by decide +kernel
theorem dX9_roots_36 : decode cX9_roots 36 = .ok (.iload 4, 2) := by decide +kernel
theorem dX9_roots_38 : decode cX9_roots 38 = .ok (.ishr, 1) := by decide +kernel
theorem dX9_roots_39 : decode cX9_roots 39 = .ok (.iconst 1, 1) := by decide +kernel
theorem dX9_roots_40 : decode cX9_roots 40 = .ok (.iand, 1) := by decide +kernel
theorem dX9_roots_41 : decode cX9_roots 41 = .ok (.iconst 1, 1) := by decide +kernel
theorem dX9_roots_42 : decode cX9_roots 42 = .ok (.if_icmp .ne 19, 3) := by decide +kernel
theorem dX9_roots_45 : decode cX9_roots 45 = .ok (.aload_n 0, 1) := by decide +kernel
theorem dX9_roots_46 : decode cX9_roots 46 = .ok (.iload 4, 2) := by decide +kernel
theorem dX9_roots_48 : decode cX9_roots 48 = .ok (.invokevirtual 180, 3) := by decide +kernel
theorem dX9_roots_51 : decode cX9_roots 51 = .ok (.ifCond .ne 10, 3) := by decide +kernel
theorem dX9_roots_54 : decode cX9_roots 54 = .ok (.iconst 1, 1) := by decide +kernel
theorem dX9_roots_55 : decode cX9_roots 55 = .ok (.iload 4, 2) := by decide +kernel
theorem dX9_roots_57 : decode cX9_roots 57 = .ok (.ishl, 1) := by decide +kernel
theorem dX9_roots_58 : decode cX9_roots 58 = .ok (.goto 4, 3) := by decide +kernel
theorem dX9_roots_61 : decode cX9_roots 61 = .ok (.iconst 0, 1) := by decide +kernel
theorem dX9_roots_62 : decode cX9_roots 62 = .ok (.ior, 1) := by decide +kernel
theorem dX9_roots_63 : decode cX9_roots 63 = .ok (.istore_n 3, 1) := by decide +kernel
theorem dX9_roots_64 : decode cX9_roots 64 = .ok (.iinc 4 1, 3) := by decide +kernel
theorem dX9_roots_67 : decode cX9_roots 67 = .ok (.goto (-42), 3) := by decide +kernel
theorem dX9_roots_70 : decode cX9_roots 70 = .ok (.iload_n 3, 1) := by decide +kernel
theorem dX9_roots_71 : decode cX9_roots 71 = .ok (.ireturn, 1) := by decide +kernel
theorem dX9_feed_0 : decode cX9_feed 0 = .ok (.iload_n 3, 1) := by decide +kernel
theorem dX9_feed_1 : decode cX9_feed 1 = .ok (.iconst 1, 1) := by decide +kernel
theorem dX9_feed_2 : decode cX9_feed 2 = .ok (.bipush 8, 2) := by decide +kernel
theorem dX9_feed_4 : decode cX9_feed 4 = .ok (.invokestatic 93, 3) := by decide +kernel
theorem dX9_feed_7 : decode cX9_feed 7 = .ok (.ifCond .ne 5, 3) := by decide +kernel
theorem dX9_feed_10 : decode cX9_feed 10 = .ok (.iconst (-1), 1) := by decide +kernel
theorem dX9_feed_11 : decode cX9_feed 11 = .ok (.ireturn, 1) := by decide +kernel
theorem dX9_feed_12 : decode cX9_feed 12 = .ok (.aload_n 0, 1) := by decide +kernel
theorem dX9_feed_13 : decode cX9_feed 13 = .ok (.getfield 190, 3) := by decide +kernel
theorem dX9_feed_16 : decode cX9_feed 16 = .ok (.iload_n 3, 1) := by decide +kernel
theorem dX9_feed_17 : decode cX9_feed 17 = .ok (.iadd, 1) := by decide +kernel
theorem dX9_feed_18 : decode cX9_feed 18 = .ok (.sipush 200, 3) := by decide +kernel
theorem dX9_feed_21 : decode cX9_feed 21 = .ok (.if_icmp .le 6, 3) := by decide +kernel
theorem dX9_feed_24 : decode cX9_feed 24 = .ok (.bipush (-2), 2) := by decide +kernel
theorem dX9_feed_26 : decode cX9_feed 26 = .ok (.ireturn, 1) := by decide +kernel
theorem dX9_feed_27 : decode cX9_feed 27 = .ok (.iconst 0, 1) := by decide +kernel
theorem dX9_feed_28 : decode cX9_feed 28 = .ok (.istore 4, 2) := by decide +kernel
theorem dX9_feed_30 : decode cX9_feed 30 = .ok (.iload 4, 2) := by decide +kernel
theorem dX9_feed_32 : decode cX9_feed 32 = .ok (.iload_n 3, 1) := by decide +kernel
theorem dX9_feed_33 : decode cX9_feed 33 = .ok (.if_icmp .ge 40, 3) := by decide +kernel
theorem dX9_feed_36 : decode cX9_feed 36 = .ok (.aload_n 0, 1) := by decide +kernel
theorem dX9_feed_37 : decode cX9_feed 37 = .ok (.getfield 40, 3) := by decide +kernel
theorem dX9_feed_40 : decode cX9_feed 40 = .ok (.aload_n 0, 1) := by decide +kernel
theorem dX9_feed_41 : decode cX9_feed 41 = .ok (.getfield 190, 3) := by decide +kernel
theorem dX9_feed_44 : decode cX9_feed 44 = .ok (.lload_n 1, 1) := by decide +kernel
theorem dX9_feed_45 : decode cX9_feed 45 = .ok (.bipush 8, 2) := by decide +kernel
theorem dX9_feed_47 : decode cX9_feed 47 = .ok (.iload 4, 2) := by decide +kernel
theorem dX9_feed_49 : decode cX9_feed 49 = .ok (.imul, 1) := by decide +kernel
theorem dX9_feed_50 : decode cX9_feed 50 = .ok (.lushr, 1) := by decide +kernel
theorem dX9_feed_51 : decode cX9_feed 51 = .ok (.ldc2_w 193, 3) := by decide +kernel
theorem dX9_feed_54 : decode cX9_feed 54 = .ok (.land, 1) := by decide +kernel
theorem dX9_feed_55 : decode cX9_feed 55 = .ok (.l2i, 1) := by decide +kernel
theorem dX9_feed_56 : decode cX9_feed 56 = .ok (.iastore, 1) := by decide +kernel
theorem dX9_feed_57 : decode cX9_feed 57 = .ok (.aload_n 0, 1) := by decide +kernel
theorem dX9_feed_58 : decode cX9_feed 58 = .ok (.dup, 1) := by decide +kernel
theorem dX9_feed_59 : decode cX9_feed 59 = .ok (.getfield 190, 3) := by decide +kernel
theorem dX9_feed_62 : decode cX9_feed 62 = .ok (.iconst 1, 1) := by decide +kernel
theorem dX9_feed_63 : decode cX9_feed 63 = .ok (.iadd, 1) := by decide +kernel
theorem dX9_feed_64 : decode cX9_feed 64 = .ok (.putfield 190, 3) := by decide +kernel
theorem dX9_feed_67 : decode cX9_feed 67 = .ok (.iinc 4 1, 3) := by decide +kernel
theorem dX9_feed_70 : decode cX9_feed 70 = .ok (.goto (-40), 3) := by decide +kernel
theorem dX9_feed_73 : decode cX9_feed 73 = .ok (.aload_n 0, 1) := by decide +kernel
theorem dX9_feed_74 : decode cX9_feed 74 = .ok (.getfield 190, 3) := by decide +kernel
theorem dX9_feed_77 : decode cX9_feed 77 = .ok (.ireturn, 1) := by decide +kernel
theorem dX9_isLetter_0 : decode cX9_isLetter 0 = .ok (.iload_n 0, 1) := by decide +kernel
theorem dX9_isLetter_1 : decode cX9_isLetter 1 = .ok (.bipush 97, 2) := by decide +kernel
theorem dX9_isLetter_3 : decode cX9_isLetter 3 = .ok (.if_icmp .lt 13, 3) := by decide +kernel
theorem dX9_isLetter_6 : decode cX9_isLetter 6 = .ok (.iload_n 0, 1) := by decide +kernel
theorem dX9_isLetter_7 : decode cX9_isLetter 7 = .ok (.bipush 122, 2) := by decide +kernel
theorem dX9_isLetter_9 : decode cX9_isLetter 9 = .ok (.if_icmp .gt 7, 3) := by decide +kernel
theorem dX9_isLetter_12 : decode cX9_isLetter 12 = .ok (.iconst 1, 1) := by decide +kernel
theorem dX9_isLetter_13 : decode cX9_isLetter 13 = .ok (.goto 4, 3) := by decide +kernel
theorem dX9_isLetter_16 : decode cX9_isLetter 16 = .ok (.iconst 0, 1) := by decide +kernel
theorem dX9_isLetter_17 : decode cX9_isLetter 17 = .ok (.ireturn, 1) := by decide +kernel
theorem dX9_isDigit_0 : decode cX9_isDigit 0 = .ok (.iload_n 0, 1) := by decide +kernel
theorem dX9_isDigit_1 : decode cX9_isDigit 1 = .ok (.bipush 48, 2) := by decide +kernel
theorem dX9_isDigit_3 : decode cX9_isDigit 3 = .ok (.if_icmp .lt 13, 3) := by decide +kernel
theorem dX9_isDigit_6 : decode cX9_isDigit 6 = .ok (.iload_n 0, 1) := by decide +kernel
theorem dX9_isDigit_7 : decode cX9_isDigit 7 = .ok (.bipush 57, 2) := by decide +kernel
theorem dX9_isDigit_9 : decode cX9_isDigit 9 = .ok (.if_icmp .gt 7, 3) := by decide +kernel
theorem dX9_isDigit_12 : decode cX9_isDigit 12 = .ok (.iconst 1, 1) := by decide +kernel
theorem dX9_isDigit_13 : decode cX9_isDigit 13 = .ok (.goto 4, 3) := by decide +kernel
theorem dX9_isDigit_16 : decode cX9_isDigit 16 = .ok (.iconst 0, 1) := by decide +kernel
theorem dX9_isDigit_17 : decode cX9_isDigit 17 = .ok (.ireturn, 1) := by decide +kernel
theorem dX9_advance_0 : decode cX9_advance 0 = .ok (.aload_n 0, 1) := by decide +kernel
theorem dX9_advance_1 : decode cX9_advance 1 = .ok (.getfield 195, 3) := by decide +kernel
theorem dX9_advance_4 : decode cX9_advance 4 = .ok (.istore_n 1, 1) := by decide +kernel
theorem dX9_advance_5 : decode cX9_advance 5 = .ok (.iload_n 1, 1) := by decide +kernel
theorem dX9_advance_6 : decode cX9_advance 6 = .ok (.aload_n 0, 1) := by decide +kernel
theorem dX9_advance_7 : decode cX9_advance 7 = .ok (.getfield 190, 3) := by decide +kernel
theorem dX9_advance_10 : decode cX9_advance 10 = .ok (.if_icmp .ge 20, 3) := by decide +kernel
theorem dX9_advance_13 : decode cX9_advance 13 = .ok (.aload_n 0, 1) := by decide +kernel
theorem dX9_advance_14 : decode cX9_advance 14 = .ok (.getfield 40, 3) := by decide +kernel
theorem dX9_advance_17 : decode cX9_advance 17 = .ok (.iload_n 1, 1) := by decide +kernel
theorem dX9_advance_18 : decode cX9_advance 18 = .ok (.iaload, 1) := by decide +kernel
theorem dX9_advance_19 : decode cX9_advance 19 = .ok (.bipush 32, 2) := by decide +kernel
theorem dX9_advance_21 : decode cX9_advance 21 = .ok (.if_icmp .ne 9, 3) := by decide +kernel
theorem dX9_advance_24 : decode cX9_advance 24 = .ok (.iinc 1 1, 3) := by decide +kernel
theorem dX9_advance_27 : decode cX9_advance 27 = .ok (.goto (-22), 3) := by decide +kernel
theorem dX9_advance_30 : decode cX9_advance 30 = .ok (.aload_n 0, 1) := by decide +kernel
theorem dX9_advance_31 : decode cX9_advance 31 = .ok (.iload_n 1, 1) := by decide +kernel
theorem dX9_advance_32 : decode cX9_advance 32 = .ok (.putfield 198, 3) := by decide +kernel
theorem dX9_advance_35 : decode cX9_advance 35 = .ok (.aload_n 0, 1) := by decide +kernel
theorem dX9_advance_36 : decode cX9_advance 36 = .ok (.lconst 0, 1) := by decide +kernel
theorem dX9_advance_37 : decode cX9_advance 37 = .ok (.putfield 201, 3) := by decide +kernel
theorem dX9_advance_40 : decode cX9_advance 40 = .ok (.iload_n 1, 1) := by decide +kernel
theorem dX9_advance_41 : decode cX9_advance 41 = .ok (.aload_n 0, 1) := by decide +kernel
theorem dX9_advance_42 : decode cX9_advance 42 = .ok (.getfield 190, 3) := by decide +kernel
theorem dX9_advance_45 : decode cX9_advance 45 = .ok (.if_icmp .ne 11, 3) := by decide +kernel
theorem dX9_advance_48 : decode cX9_advance 48 = .ok (.aload_n 0, 1) := by decide +kernel
theorem dX9_advance_49 : decode cX9_advance 49 = .ok (.iconst 0, 1) := by decide +kernel
theorem dX9_advance_50 : decode cX9_advance 50 = .ok (.putfield 205, 3) := by decide +kernel
theorem dX9_advance_53 : decode cX9_advance 53 = .ok (.goto 214, 3) := by decide +kernel
theorem dX9_advance_56 : decode cX9_advance 56 = .ok (.aload_n 0, 1) := by decide +kernel
theorem dX9_advance_57 : decode cX9_advance 57 = .ok (.getfield 40, 3) := by decide +kernel
theorem dX9_advance_60 : decode cX9_advance 60 = .ok (.iload_n 1, 1) := by decide +kernel
theorem dX9_advance_61 : decode cX9_advance 61 = .ok (.iaload, 1) := by decide +kernel
theorem dX9_advance_62 : decode cX9_advance 62 = .ok (.invokestatic 208, 3) := by decide +kernel
theorem dX9_advance_65 : decode cX9_advance 65 = .ok (.ifCond .eq 99, 3) := by decide +kernel
theorem dX9_advance_68 : decode cX9_advance 68 = .ok (.aload_n 0, 1) := by decide +kernel
theorem dX9_advance_69 : decode cX9_advance 69 = .ok (.iconst 1, 1) := by decide +kernel
theorem dX9_advance_70 : decode cX9_advance 70 = .ok (.putfield 205, 3) := by decide +kernel
theorem dX9_advance_73 : decode cX9_advance 73 = .ok (.iload_n 1, 1) := by decide +kernel
theorem dX9_advance_74 : decode cX9_advance 74 = .ok (.aload_n 0, 1) := by decide +kernel
theorem dX9_advance_75 : decode cX9_advance 75 = .ok (.getfield 190, 3) := by decide +kernel
theorem dX9_advance_78 : decode cX9_advance 78 = .ok (.if_icmp .ge 60, 3) := by decide +kernel
theorem dX9_advance_81 : decode cX9_advance 81 = .ok (.aload_n 0, 1) := by decide +kernel
theorem dX9_advance_82 : decode cX9_advance 82 = .ok (.getfield 40, 3) := by decide +kernel
theorem dX9_advance_85 : decode cX9_advance 85 = .ok (.iload_n 1, 1) := by decide +kernel
theorem dX9_advance_86 : decode cX9_advance 86 = .ok (.iaload, 1) := by decide +kernel
theorem dX9_advance_87 : decode cX9_advance 87 = .ok (.invokestatic 208, 3) := by decide +kernel
theorem dX9_advance_90 : decode cX9_advance 90 = .ok (.ifCond .eq 48, 3) := by decide +kernel
theorem dX9_advance_93 : decode cX9_advance 93 = .ok (.aload_n 0, 1) := by decide +kernel
theorem dX9_advance_94 : decode cX9_advance 94 = .ok (.iload_n 1, 1) := by decide +kernel
theorem dX9_advance_95 : decode cX9_advance 95 = .ok (.aload_n 0, 1) := by decide +kernel
theorem dX9_advance_96 : decode cX9_advance 96 = .ok (.getfield 198, 3) := by decide +kernel
theorem dX9_advance_99 : decode cX9_advance 99 = .ok (.isub, 1) := by decide +kernel
theorem dX9_advance_100 : decode cX9_advance 100 = .ok (.bipush 8, 2) := by decide +kernel
theorem dX9_advance_102 : decode cX9_advance 102 = .ok (.if_icmp .ge 26, 3) := by decide +kernel
theorem dX9_advance_105 : decode cX9_advance 105 = .ok (.ldc2_w 211, 3) := by decide +kernel
theorem dX9_advance_108 : decode cX9_advance 108 = .ok (.aload_n 0, 1) := by decide +kernel
theorem dX9_advance_109 : decode cX9_advance 109 = .ok (.getfield 201, 3) := by decide +kernel
theorem dX9_advance_112 : decode cX9_advance 112 = .ok (.lmul, 1) := by decide +kernel
theorem dX9_advance_113 : decode cX9_advance 113 = .ok (.aload_n 0, 1) := by decide +kernel
theorem dX9_advance_114 : decode cX9_advance 114 = .ok (.getfield 40, 3) := by decide +kernel
theorem dX9_advance_117 : decode cX9_advance 117 = .ok (.iload_n 1, 1) := by decide +kernel
theorem dX9_advance_118 : decode cX9_advance 118 = .ok (.iaload, 1) := by decide +kernel
theorem dX9_advance_119 : decode cX9_advance 119 = .ok (.i2l, 1) := by decide +kernel
theorem dX9_advance_120 : decode cX9_advance 120 = .ok (.ladd, 1) := by decide +kernel
theorem dX9_advance_121 : decode cX9_advance 121 = .ok (.ldc2_w 213, 3) := by decide +kernel
theorem dX9_advance_124 : decode cX9_advance 124 = .ok (.lsub, 1) := by decide +kernel
theorem dX9_advance_125 : decode cX9_advance 125 = .ok (.goto 4, 3) := by decide +kernel
theorem dX9_advance_128 : decode cX9_advance 128 = .ok (.lconst 0, 1) := by decide +kernel
theorem dX9_advance_129 : decode cX9_advance 129 = .ok (.putfield 201, 3) := by decide +kernel
theorem dX9_advance_132 : decode cX9_advance 132 = .ok (.iinc 1 1, 3) := by decide +kernel
theorem dX9_advance_135 : decode cX9_advance 135 = .ok (.goto (-62), 3) := by decide +kernel
theorem dX9_advance_138 : decode cX9_advance 138 = .ok (.aload_n 0, 1) := by decide +kernel
theorem dX9_advance_139 : decode cX9_advance 139 = .ok (.iload_n 1, 1) := by decide +kernel
theorem dX9_advance_140 : decode cX9_advance 140 = .ok (.aload_n 0, 1) := by decide +kernel
theorem dX9_advance_141 : decode cX9_advance 141 = .ok (.getfield 198, 3) := by decide +kernel
theorem dX9_advance_144 : decode cX9_advance 144 = .ok (.isub, 1) := by decide +kernel
theorem dX9_advance_145 : decode cX9_advance 145 = .ok (.bipush 8, 2) := by decide +kernel
theorem dX9_advance_147 : decode cX9_advance 147 = .ok (.if_icmp .le 7, 3) := by decide +kernel
theorem dX9_advance_150 : decode cX9_advance 150 = .ok (.lconst 0, 1) := by decide +kernel
theorem dX9_advance_151 : decode cX9_advance 151 = .ok (.goto 7, 3) := by decide +kernel
theorem dX9_advance_154 : decode cX9_advance 154 = .ok (.aload_n 0, 1) := by decide +kernel
theorem dX9_advance_155 : decode cX9_advance 155 = .ok (.getfield 201, 3) := by decide +kernel
theorem dX9_advance_158 : decode cX9_advance 158 = .ok (.putfield 201, 3) := by decide +kernel
theorem dX9_advance_161 : decode cX9_advance 161 = .ok (.goto 106, 3) := by decide +kernel
theorem dX9_advance_164 : decode cX9_advance 164 = .ok (.aload_n 0, 1) := by decide +kernel
theorem dX9_advance_165 : decode cX9_advance 165 = .ok (.getfield 40, 3) := by decide +kernel
theorem dX9_advance_168 : decode cX9_advance 168 = .ok (.iload_n 1, 1) := by decide +kernel
theorem dX9_advance_169 : decode cX9_advance 169 = .ok (.iaload, 1) := by decide +kernel
theorem dX9_advance_170 : decode cX9_advance 170 = .ok (.invokestatic 215, 3) := by decide +kernel
theorem dX9_advance_173 : decode cX9_advance 173 = .ok (.ifCond .eq 75, 3) := by decide +kernel
theorem dX9_advance_176 : decode cX9_advance 176 = .ok (.aload_n 0, 1) := by decide +kernel
theorem dX9_advance_177 : decode cX9_advance 177 = .ok (.iconst 2, 1) := by decide +kernel
theorem dX9_advance_178 : decode cX9_advance 178 = .ok (.putfield 205, 3) := by decide +kernel
theorem dX9_advance_181 : decode cX9_advance 181 = .ok (.iload_n 1, 1) := by decide +kernel
theorem dX9_advance_182 : decode cX9_advance 182 = .ok (.aload_n 0, 1) := by decide +kernel
theorem dX9_advance_183 : decode cX9_advance 183 = .ok (.getfield 190, 3) := by decide +kernel
theorem dX9_advance_186 : decode cX9_advance 186 = .ok (.if_icmp .ge 81, 3) := by decide +kernel
theorem dX9_advance_189 : decode cX9_advance 189 = .ok (.aload_n 0, 1) := by decide +kernel
theorem dX9_advance_190 : decode cX9_advance 190 = .ok (.getfield 40, 3) := by decide +kernel
theorem dX9_advance_193 : decode cX9_advance 193 = .ok (.iload_n 1, 1) := by decide +kernel
theorem dX9_advance_194 : decode cX9_advance 194 = .ok (.iaload, 1) := by decide +kernel
theorem dX9_advance_195 : decode cX9_advance 195 = .ok (.invokestatic 215, 3) := by decide +kernel
theorem dX9_advance_198 : decode cX9_advance 198 = .ok (.ifCond .eq 69, 3) := by decide +kernel
theorem dX9_advance_201 : decode cX9_advance 201 = .ok (.aload_n 0, 1) := by decide +kernel
theorem dX9_advance_202 : decode cX9_advance 202 = .ok (.iload_n 1, 1) := by decide +kernel
theorem dX9_advance_203 : decode cX9_advance 203 = .ok (.aload_n 0, 1) := by decide +kernel
theorem dX9_advance_204 : decode cX9_advance 204 = .ok (.getfield 198, 3) := by decide +kernel
theorem dX9_advance_207 : decode cX9_advance 207 = .ok (.isub, 1) := by decide +kernel
theorem dX9_advance_208 : decode cX9_advance 208 = .ok (.iconst 3, 1) := by decide +kernel
theorem dX9_advance_209 : decode cX9_advance 209 = .ok (.if_icmp .ge 26, 3) := by decide +kernel
theorem dX9_advance_212 : decode cX9_advance 212 = .ok (.ldc2_w 218, 3) := by decide +kernel
theorem dX9_advance_215 : decode cX9_advance 215 = .ok (.aload_n 0, 1) := by decide +kernel
theorem dX9_advance_216 : decode cX9_advance 216 = .ok (.getfield 201, 3) := by decide +kernel
theorem dX9_advance_219 : decode cX9_advance 219 = .ok (.lmul, 1) := by decide +kernel
theorem dX9_advance_220 : decode cX9_advance 220 = .ok (.aload_n 0, 1) := by decide +kernel
theorem dX9_advance_221 : decode cX9_advance 221 = .ok (.getfield 40, 3) := by decide +kernel
theorem dX9_advance_224 : decode cX9_advance 224 = .ok (.iload_n 1, 1) := by decide +kernel
theorem dX9_advance_225 : decode cX9_advance 225 = .ok (.iaload, 1) := by decide +kernel
theorem dX9_advance_226 : decode cX9_advance 226 = .ok (.i2l, 1) := by decide +kernel
theorem dX9_advance_227 : decode cX9_advance 227 = .ok (.ladd, 1) := by decide +kernel
theorem dX9_advance_228 : decode cX9_advance 228 = .ok (.ldc2_w 220, 3) := by decide +kernel
theorem dX9_advance_231 : decode cX9_advance 231 = .ok (.lsub, 1) := by decide +kernel
theorem dX9_advance_232 : decode cX9_advance 232 = .ok (.goto 7, 3) := by decide +kernel
theorem dX9_advance_235 : decode cX9_advance 235 = .ok (.aload_n 0, 1) := by decide +kernel
theorem dX9_advance_236 : decode cX9_advance 236 = .ok (.getfield 201, 3) := by decide +kernel
theorem dX9_advance_239 : decode cX9_advance 239 = .ok (.putfield 201, 3) := by decide +kernel
theorem dX9_advance_242 : decode cX9_advance 242 = .ok (.iinc 1 1, 3) := by decide +kernel
theorem dX9_advance_245 : decode cX9_advance 245 = .ok (.goto (-64), 3) := by decide +kernel
theorem dX9_advance_248 : decode cX9_advance 248 = .ok (.aload_n 0, 1) := by decide +kernel
theorem dX9_advance_249 : decode cX9_advance 249 = .ok (.iconst 3, 1) := by decide +kernel
theorem dX9_advance_250 : decode cX9_advance 250 = .ok (.putfield 205, 3) := by decide +kernel
theorem dX9_advance_253 : decode cX9_advance 253 = .ok (.aload_n 0, 1) := by decide +kernel
theorem dX9_advance_254 : decode cX9_advance 254 = .ok (.aload_n 0, 1) := by decide +kernel
theorem dX9_advance_255 : decode cX9_advance 255 = .ok (.getfield 40, 3) := by decide +kernel
theorem dX9_advance_258 : decode cX9_advance 258 = .ok (.iload_n 1, 1) := by decide +kernel
theorem dX9_advance_259 : decode cX9_advance 259 = .ok (.iaload, 1) := by decide +kernel
theorem dX9_advance_260 : decode cX9_advance 260 = .ok (.i2l, 1) := by decide +kernel
theorem dX9_advance_261 : decode cX9_advance 261 = .ok (.putfield 201, 3) := by decide +kernel
theorem dX9_advance_264 : decode cX9_advance 264 = .ok (.iinc 1 1, 3) := by decide +kernel
theorem dX9_advance_267 : decode cX9_advance 267 = .ok (.aload_n 0, 1) := by decide +kernel
theorem dX9_advance_268 : decode cX9_advance 268 = .ok (.iload_n 1, 1) := by decide +kernel
theorem dX9_advance_269 : decode cX9_advance 269 = .ok (.putfield 195, 3) := by decide +kernel
theorem dX9_advance_272 : decode cX9_advance 272 = .ok (.return_, 1) := by decide +kernel
theorem dX9_isGood_0 : decode cX9_isGood 0 = .ok (.aload_n 0, 1) := by decide +kernel
theorem dX9_isGood_1 : decode cX9_isGood 1 = .ok (.getfield 222, 3) := by decide +kernel
theorem dX9_isGood_4 : decode cX9_isGood 4 = .ok (.ifCond .ge 7, 3) := by decide +kernel
theorem dX9_isGood_7 : decode cX9_isGood 7 = .ok (.iconst 1, 1) := by decide +kernel
theorem dX9_isGood_8 : decode cX9_isGood 8 = .ok (.goto 4, 3) := by decide +kernel
theorem dX9_isGood_11 : decode cX9_isGood 11 = .ok (.iconst 0, 1) := by decide +kernel
theorem dX9_isGood_12 : decode cX9_isGood 12 = .ok (.ireturn, 1) := by decide +kernel
theorem dX9_faulty_0 : decode cX9_faulty 0 = .ok (.aload_n 0, 1) := by decide +kernel
theorem dX9_faulty_1 : decode cX9_faulty 1 = .ok (.aload_n 0, 1) := by decide +kernel
theorem dX9_faulty_2 : decode cX9_faulty 2 = .ok (.getfield 222, 3) := by decide +kernel
theorem dX9_faulty_5 : decode cX9_faulty 5 = .ok (.ifCond .ge 10, 3) := by decide +kernel
theorem dX9_faulty_8 : decode cX9_faulty 8 = .ok (.aload_n 0, 1) := by decide +kernel
theorem dX9_faulty_9 : decode cX9_faulty 9 = .ok (.getfield 198, 3) := by decide +kernel
theorem dX9_faulty_12 : decode cX9_faulty 12 = .ok (.goto 7, 3) := by decide +kernel
theorem dX9_faulty_15 : decode cX9_faulty 15 = .ok (.aload_n 0, 1) := by decide +kernel
theorem dX9_faulty_16 : decode cX9_faulty 16 = .ok (.getfield 222, 3) := by decide +kernel
theorem dX9_faulty_19 : decode cX9_faulty 19 = .ok (.putfield 222, 3) := by decide +kernel
theorem dX9_faulty_22 : decode cX9_faulty 22 = .ok (.return_, 1) := by decide +kernel
theorem dX9_isWord_0 : decode cX9_isWord 0 = .ok (.aload_n 0, 1) := by decide +kernel
theorem dX9_isWord_1 : decode cX9_isWord 1 = .ok (.getfield 205, 3) := by decide +kernel
theorem dX9_isWord_4 : decode cX9_isWord 4 = .ok (.iconst 1, 1) := by decide +kernel
theorem dX9_isWord_5 : decode cX9_isWord 5 = .ok (.if_icmp .ne 16, 3) := by decide +kernel
theorem dX9_isWord_8 : decode cX9_isWord 8 = .ok (.aload_n 0, 1) := by decide +kernel
theorem dX9_isWord_9 : decode cX9_isWord 9 = .ok (.getfield 201, 3) := by decide +kernel
theorem dX9_isWord_12 : decode cX9_isWord 12 = .ok (.lload_n 1, 1) := by decide +kernel
theorem dX9_isWord_13 : decode cX9_isWord 13 = .ok (.lcmp, 1) := by decide +kernel
theorem dX9_isWord_14 : decode cX9_isWord 14 = .ok (.ifCond .ne 7, 3) := by decide +kernel
theorem dX9_isWord_17 : decode cX9_isWord 17 = .ok (.iconst 1, 1) := by decide +kernel
theorem dX9_isWord_18 : decode cX9_isWord 18 = .ok (.goto 4, 3) := by decide +kernel
theorem dX9_isWord_21 : decode cX9_isWord 21 = .ok (.iconst 0, 1) := by decide +kernel
theorem dX9_isWord_22 : decode cX9_isWord 22 = .ok (.ireturn, 1) := by decide +kernel
theorem dX9_isMark_0 : decode cX9_isMark 0 = .ok (.aload_n 0, 1) := by decide +kernel
theorem dX9_isMark_1 : decode cX9_isMark 1 = .ok (.getfield 205, 3) := by decide +kernel
theorem dX9_isMark_4 : decode cX9_isMark 4 = .ok (.iconst 3, 1) := by decide +kernel
theorem dX9_isMark_5 : decode cX9_isMark 5 = .ok (.if_icmp .ne 17, 3) := by decide +kernel
theorem dX9_isMark_8 : decode cX9_isMark 8 = .ok (.aload_n 0, 1) := by decide +kernel
theorem dX9_isMark_9 : decode cX9_isMark 9 = .ok (.getfield 201, 3) := by decide +kernel
theorem dX9_isMark_12 : decode cX9_isMark 12 = .ok (.iload_n 1, 1) := by decide +kernel
theorem dX9_isMark_13 : decode cX9_isMark 13 = .ok (.i2l, 1) := by decide +kernel
theorem dX9_isMark_14 : decode cX9_isMark 14 = .ok (.lcmp, 1) := by decide +kernel
theorem dX9_isMark_15 : decode cX9_isMark 15 = .ok (.ifCond .ne 7, 3) := by decide +kernel
theorem dX9_isMark_18 : decode cX9_isMark 18 = .ok (.iconst 1, 1) := by decide +kernel
theorem dX9_isMark_19 : decode cX9_isMark 19 = .ok (.goto 4, 3) := by decide +kernel
theorem dX9_isMark_22 : decode cX9_isMark 22 = .ok (.iconst 0, 1) := by decide +kernel
theorem dX9_isMark_23 : decode cX9_isMark 23 = .ok (.ireturn, 1) := by decide +kernel
theorem dX9_want_0 : decode cX9_want 0 = .ok (.aload_n 0, 1) := by decide +kernel
theorem dX9_want_1 : decode cX9_want 1 = .ok (.invokevirtual 225, 3) := by decide +kernel
theorem dX9_want_4 : decode cX9_want 4 = .ok (.ifCond .eq 18, 3) := by decide +kernel
theorem dX9_want_7 : decode cX9_want 7 = .ok (.iload_n 1, 1) := by decide +kernel
theorem dX9_want_8 : decode cX9_want 8 = .ok (.ifCond .eq 10, 3) := by decide +kernel
theorem dX9_want_11 : decode cX9_want 11 = .ok (.aload_n 0, 1) := by decide +kernel
theorem dX9_want_12 : decode cX9_want 12 = .ok (.invokevirtual 229, 3) := by decide +kernel
theorem dX9_want_15 : decode cX9_want 15 = .ok (.goto 7, 3) := by decide +kernel
theorem dX9_want_18 : decode cX9_want 18 = .ok (.aload_n 0, 1) := by decide +kernel
theorem dX9_want_19 : decode cX9_want 19 = .ok (.invokevirtual 232, 3) := by decide +kernel
theorem dX9_want_22 : decode cX9_want 22 = .ok (.return_, 1) := by decide +kernel
theorem dX9_wantNumber_0 : decode cX9_wantNumber 0 = .ok (.aload_n 0, 1) := by decide +kernel
theorem dX9_wantNumber_1 : decode cX9_wantNumber 1 = .ok (.getfield 201, 3) := by decide +kernel
theorem dX9_wantNumber_4 : decode cX9_wantNumber 4 = .ok (.l2i, 1) := by decide +kernel
theorem dX9_wantNumber_5 : decode cX9_wantNumber 5 = .ok (.istore_n 1, 1) := by decide +kernel
theorem dX9_wantNumber_6 : decode cX9_wantNumber 6 = .ok (.aload_n 0, 1) := by decide +kernel
theorem dX9_wantNumber_7 : decode cX9_wantNumber 7 = .ok (.aload_n 0, 1) := by decide +kernel
theorem dX9_wantNumber_8 : decode cX9_wantNumber 8 = .ok (.getfield 205, 3) := by decide +kernel
theorem dX9_wantNumber_11 : decode cX9_wantNumber 11 = .ok (.iconst 2, 1) := by decide +kernel
theorem dX9_wantNumber_12 : decode cX9_wantNumber 12 = .ok (.if_icmp .ne 20, 3) := by decide +kernel
theorem dX9_wantNumber_15 : decode cX9_wantNumber 15 = .ok (.aload_n 0, 1) := by decide +kernel
theorem dX9_wantNumber_16 : decode cX9_wantNumber 16 = .ok (.getfield 195, 3) := by decide +kernel
theorem dX9_wantNumber_19 : decode cX9_wantNumber 19 = .ok (.aload_n 0, 1) := by decide +kernel
theorem dX9_wantNumber_20 : decode cX9_wantNumber 20 = .ok (.getfield 198, 3) := by decide +kernel
theorem dX9_wantNumber_23 : decode cX9_wantNumber 23 = .ok (.isub, 1) := by decide +kernel
theorem dX9_wantNumber_24 : decode cX9_wantNumber 24 = .ok (.iconst 3, 1) := by decide +kernel
theorem dX9_wantNumber_25 : decode cX9_wantNumber 25 = .ok (.if_icmp .gt 7, 3) := by decide +kernel
theorem dX9_wantNumber_28 : decode cX9_wantNumber 28 = .ok (.iconst 1, 1) := by decide +kernel
theorem dX9_wantNumber_29 : decode cX9_wantNumber 29 = .ok (.goto 4, 3) := by decide +kernel
theorem dX9_wantNumber_32 : decode cX9_wantNumber 32 = .ok (.iconst 0, 1) := by decide +kernel
theorem dX9_wantNumber_33 : decode cX9_wantNumber 33 = .ok (.invokevirtual 235, 3) := by decide +kernel
theorem dX9_wantNumber_36 : decode cX9_wantNumber 36 = .ok (.iload_n 1, 1) := by decide +kernel
theorem dX9_wantNumber_37 : decode cX9_wantNumber 37 = .ok (.ireturn, 1) := by decide +kernel
theorem dX9_emit_0 : decode cX9_emit 0 = .ok (.aload_n 0, 1) := by decide +kernel
theorem dX9_emit_1 : decode cX9_emit 1 = .ok (.getfield 43, 3) := by decide +kernel
theorem dX9_emit_4 : decode cX9_emit 4 = .ok (.aload_n 0, 1) := by decide +kernel
theorem dX9_emit_5 : decode cX9_emit 5 = .ok (.getfield 239, 3) := by decide +kernel
theorem dX9_emit_8 : decode cX9_emit 8 = .ok (.iload_n 1, 1) := by decide +kernel
theorem dX9_emit_9 : decode cX9_emit 9 = .ok (.iastore, 1) := by decide +kernel
theorem dX9_emit_10 : decode cX9_emit 10 = .ok (.aload_n 0, 1) := by decide +kernel
theorem dX9_emit_11 : decode cX9_emit 11 = .ok (.dup, 1) := by decide +kernel
theorem dX9_emit_12 : decode cX9_emit 12 = .ok (.getfield 239, 3) := by decide +kernel
theorem dX9_emit_15 : decode cX9_emit 15 = .ok (.iconst 1, 1) := by decide +kernel
theorem dX9_emit_16 : decode cX9_emit 16 = .ok (.iadd, 1) := by decide +kernel
theorem dX9_emit_17 : decode cX9_emit 17 = .ok (.putfield 239, 3) := by decide +kernel
theorem dX9_emit_20 : decode cX9_emit 20 = .ok (.return_, 1) := by decide +kernel
theorem dX9_settle_0 : decode cX9_settle 0 = .ok (.aload_n 0, 1) := by decide +kernel
theorem dX9_settle_1 : decode cX9_settle 1 = .ok (.getfield 242, 3) := by decide +kernel
theorem dX9_settle_4 : decode cX9_settle 4 = .ok (.ifCond .le 60, 3) := by decide +kernel
theorem dX9_settle_7 : decode cX9_settle 7 = .ok (.aload_n 0, 1) := by decide +kernel
theorem dX9_settle_8 : decode cX9_settle 8 = .ok (.getfield 46, 3) := by decide +kernel
theorem dX9_settle_11 : decode cX9_settle 11 = .ok (.aload_n 0, 1) := by decide +kernel
theorem dX9_settle_12 : decode cX9_settle 12 = .ok (.getfield 242, 3) := by decide +kernel
theorem dX9_settle_15 : decode cX9_settle 15 = .ok (.iconst 1, 1) := by decide +kernel
theorem dX9_settle_16 : decode cX9_settle 16 = .ok (.isub, 1) := by decide +kernel
theorem dX9_settle_17 : decode cX9_settle 17 = .ok (.iaload, 1) := by decide +kernel
theorem dX9_settle_18 : decode cX9_settle 18 = .ok (.bipush 10, 2) := by decide +kernel
theorem dX9_settle_20 : decode cX9_settle 20 = .ok (.if_icmp .eq 44, 3) := by decide +kernel
theorem dX9_settle_23 : decode cX9_settle 23 = .ok (.aload_n 0, 1) := by decide +kernel
theorem dX9_settle_24 : decode cX9_settle 24 = .ok (.getfield 46, 3) := by decide +kernel
theorem dX9_settle_27 : decode cX9_settle 27 = .ok (.aload_n 0, 1) := by decide +kernel
theorem dX9_settle_28 : decode cX9_settle 28 = .ok (.getfield 242, 3) := by decide +kernel
theorem dX9_settle_31 : decode cX9_settle 31 = .ok (.iconst 1, 1) := by decide +kernel
theorem dX9_settle_32 : decode cX9_settle 32 = .ok (.isub, 1) := by decide +kernel
theorem dX9_settle_33 : decode cX9_settle 33 = .ok (.iaload, 1) := by decide +kernel
theorem dX9_settle_34 : decode cX9_settle 34 = .ok (.iload_n 1, 1) := by decide +kernel
theorem dX9_settle_35 : decode cX9_settle 35 = .ok (.if_icmp .gt 29, 3) := by decide +kernel
theorem dX9_settle_38 : decode cX9_settle 38 = .ok (.aload_n 0, 1) := by decide +kernel
theorem dX9_settle_39 : decode cX9_settle 39 = .ok (.dup, 1) := by decide +kernel
theorem dX9_settle_40 : decode cX9_settle 40 = .ok (.getfield 242, 3) := by decide +kernel
theorem dX9_settle_43 : decode cX9_settle 43 = .ok (.iconst 1, 1) := by decide +kernel
theorem dX9_settle_44 : decode cX9_settle 44 = .ok (.isub, 1) := by decide +kernel
theorem dX9_settle_45 : decode cX9_settle 45 = .ok (.putfield 242, 3) := by decide +kernel
theorem dX9_settle_48 : decode cX9_settle 48 = .ok (.aload_n 0, 1) := by decide +kernel
theorem dX9_settle_49 : decode cX9_settle 49 = .ok (.aload_n 0, 1) := by decide +kernel
theorem dX9_settle_50 : decode cX9_settle 50 = .ok (.getfield 46, 3) := by decide +kernel
theorem dX9_settle_53 : decode cX9_settle 53 = .ok (.aload_n 0, 1) := by decide +kernel
theorem dX9_settle_54 : decode cX9_settle 54 = .ok (.getfield 242, 3) := by decide +kernel
theorem dX9_settle_57 : decode cX9_settle 57 = .ok (.iaload, 1) := by decide +kernel
theorem dX9_settle_58 : decode cX9_settle 58 = .ok (.invokevirtual 245, 3) := by decide +kernel
theorem dX9_settle_61 : decode cX9_settle 61 = .ok (.goto (-61), 3) := by decide +kernel
theorem dX9_settle_64 : decode cX9_settle 64 = .ok (.return_, 1) := by decide +kernel
theorem dX9_hold_0 : decode cX9_hold 0 = .ok (.aload_n 0, 1) := by decide +kernel
theorem dX9_hold_1 : decode cX9_hold 1 = .ok (.getfield 46, 3) := by decide +kernel
theorem dX9_hold_4 : decode cX9_hold 4 = .ok (.aload_n 0, 1) := by decide +kernel
theorem dX9_hold_5 : decode cX9_hold 5 = .ok (.getfield 242, 3) := by decide +kernel
theorem dX9_hold_8 : decode cX9_hold 8 = .ok (.iload_n 1, 1) := by decide +kernel
theorem dX9_hold_9 : decode cX9_hold 9 = .ok (.iastore, 1) := by decide +kernel
theorem dX9_hold_10 : decode cX9_hold 10 = .ok (.aload_n 0, 1) := by decide +kernel
theorem dX9_hold_11 : decode cX9_hold 11 = .ok (.dup, 1) := by decide +kernel
theorem dX9_hold_12 : decode cX9_hold 12 = .ok (.getfield 242, 3) := by decide +kernel
theorem dX9_hold_15 : decode cX9_hold 15 = .ok (.iconst 1, 1) := by decide +kernel
theorem dX9_hold_16 : decode cX9_hold 16 = .ok (.iadd, 1) := by decide +kernel
theorem dX9_hold_17 : decode cX9_hold 17 = .ok (.putfield 242, 3) := by decide +kernel
theorem dX9_hold_20 : decode cX9_hold 20 = .ok (.aload_n 0, 1) := by decide +kernel
theorem dX9_hold_21 : decode cX9_hold 21 = .ok (.invokevirtual 229, 3) := by decide +kernel
theorem dX9_hold_24 : decode cX9_hold 24 = .ok (.return_, 1) := by decide +kernel
theorem dX9_wordHere_0 : decode cX9_wordHere 0 = .ok (.aload_n 0, 1) := by decide +kernel
theorem dX9_wordHere_1 : decode cX9_wordHere 1 = .ok (.ldc2_w 249, 3) := by decide +kernel
theorem dX9_wordHere_4 : decode cX9_wordHere 4 = .ok (.invokevirtual 251, 3) := by decide +kernel
theorem dX9_wordHere_7 : decode cX9_wordHere 7 = .ok (.ifCond .eq 8, 3) := by decide +kernel
theorem dX9_wordHere_10 : decode cX9_wordHere 10 = .ok (.bipush 100, 2) := by decide +kernel
theorem dX9_wordHere_12 : decode cX9_wordHere 12 = .ok (.goto 79, 3) := by decide +kernel
theorem dX9_wordHere_15 : decode cX9_wordHere 15 = .ok (.aload_n 0, 1) := by decide +kernel
theorem dX9_wordHere_16 : decode cX9_wordHere 16 = .ok (.ldc2_w 255, 3) := by decide +kernel
theorem dX9_wordHere_19 : decode cX9_wordHere 19 = .ok (.invokevirtual 251, 3) := by decide +kernel
theorem dX9_wordHere_22 : decode cX9_wordHere 22 = .ok (.ifCond .eq 8, 3) := by decide +kernel
theorem dX9_wordHere_25 : decode cX9_wordHere 25 = .ok (.bipush 101, 2) := by decide +kernel
theorem dX9_wordHere_27 : decode cX9_wordHere 27 = .ok (.goto 64, 3) := by decide +kernel
theorem dX9_wordHere_30 : decode cX9_wordHere 30 = .ok (.aload_n 0, 1) := by decide +kernel
theorem dX9_wordHere_31 : decode cX9_wordHere 31 = .ok (.ldc2_w 257, 3) := by decide +kernel
theorem dX9_wordHere_34 : decode cX9_wordHere 34 = .ok (.invokevirtual 251, 3) := by decide +kernel
theorem dX9_wordHere_37 : decode cX9_wordHere 37 = .ok (.ifCond .eq 8, 3) := by decide +kernel
theorem dX9_wordHere_40 : decode cX9_wordHere 40 = .ok (.bipush 102, 2) := by decide +kernel
theorem dX9_wordHere_42 : decode cX9_wordHere 42 = .ok (.goto 49, 3) := by decide +kernel
theorem dX9_wordHere_45 : decode cX9_wordHere 45 = .ok (.aload_n 0, 1) := by decide +kernel
theorem dX9_wordHere_46 : decode cX9_wordHere 46 = .ok (.ldc2_w 259, 3) := by decide +kernel
theorem dX9_wordHere_49 : decode cX9_wordHere 49 = .ok (.invokevirtual 251, 3) := by decide +kernel
theorem dX9_wordHere_52 : decode cX9_wordHere 52 = .ok (.ifCond .eq 8, 3) := by decide +kernel
theorem dX9_wordHere_55 : decode cX9_wordHere 55 = .ok (.bipush 103, 2) := by decide +kernel
theorem dX9_wordHere_57 : decode cX9_wordHere 57 = .ok (.goto 34, 3) := by decide +kernel
theorem dX9_wordHere_60 : decode cX9_wordHere 60 = .ok (.aload_n 0, 1) := by decide +kernel
theorem dX9_wordHere_61 : decode cX9_wordHere 61 = .ok (.ldc2_w 261, 3) := by decide +kernel
theorem dX9_wordHere_64 : decode cX9_wordHere 64 = .ok (.invokevirtual 251, 3) := by decide +kernel
theorem dX9_wordHere_67 : decode cX9_wordHere 67 = .ok (.ifCond .eq 8, 3) := by decide +kernel
theorem dX9_wordHere_70 : decode cX9_wordHere 70 = .ok (.bipush 104, 2) := by decide +kernel
theorem dX9_wordHere_72 : decode cX9_wordHere 72 = .ok (.goto 19, 3) := by decide +kernel
theorem dX9_wordHere_75 : decode cX9_wordHere 75 = .ok (.aload_n 0, 1) := by decide +kernel
theorem dX9_wordHere_76 : decode cX9_wordHere 76 = .ok (.ldc2_w 263, 3) := by decide +kernel
theorem dX9_wordHere_79 : decode cX9_wordHere 79 = .ok (.invokevirtual 251, 3) := by decide +kernel
theorem dX9_wordHere_82 : decode cX9_wordHere 82 = .ok (.ifCond .eq 8, 3) := by decide +kernel
theorem dX9_wordHere_85 : decode cX9_wordHere 85 = .ok (.bipush 105, 2) := by decide +kernel
theorem dX9_wordHere_87 : decode cX9_wordHere 87 = .ok (.goto 4, 3) := by decide +kernel
theorem dX9_wordHere_90 : decode cX9_wordHere 90 = .ok (.iconst 0, 1) := by decide +kernel
theorem dX9_wordHere_91 : decode cX9_wordHere 91 = .ok (.ireturn, 1) := by decide +kernel
theorem dX9_wantValue_0 : decode cX9_wantValue 0 = .ok (.aload_n 0, 1) := by decide +kernel
theorem dX9_wantValue_1 : decode cX9_wantValue 1 = .ok (.invokevirtual 265, 3) := by decide +kernel
theorem dX9_wantValue_4 : decode cX9_wantValue 4 = .ok (.istore_n 1, 1) := by decide +kernel
theorem dX9_wantValue_5 : decode cX9_wantValue 5 = .ok (.iload_n 1, 1) := by decide +kernel
theorem dX9_wantValue_6 : decode cX9_wantValue 6 = .ok (.ifCond .le 15, 3) := by decide +kernel
theorem dX9_wantValue_9 : decode cX9_wantValue 9 = .ok (.aload_n 0, 1) := by decide +kernel
theorem dX9_wantValue_10 : decode cX9_wantValue 10 = .ok (.iload_n 1, 1) := by decide +kernel
theorem dX9_wantValue_11 : decode cX9_wantValue 11 = .ok (.invokevirtual 245, 3) := by decide +kernel
theorem dX9_wantValue_14 : decode cX9_wantValue 14 = .ok (.aload_n 0, 1) := by decide +kernel
theorem dX9_wantValue_15 : decode cX9_wantValue 15 = .ok (.invokevirtual 229, 3) := by decide +kernel
theorem dX9_wantValue_18 : decode cX9_wantValue 18 = .ok (.goto 48, 3) := by decide +kernel
theorem dX9_wantValue_21 : decode cX9_wantValue 21 = .ok (.aload_n 0, 1) := by decide +kernel
theorem dX9_wantValue_22 : decode cX9_wantValue 22 = .ok (.ldc2_w 268, 3) := by decide +kernel
theorem dX9_wantValue_25 : decode cX9_wantValue 25 = .ok (.invokevirtual 251, 3) := by decide +kernel
theorem dX9_wantValue_28 : decode cX9_wantValue 28 = .ok (.ifCond .eq 24, 3) := by decide +kernel
theorem dX9_wantValue_31 : decode cX9_wantValue 31 = .ok (.aload_n 0, 1) := by decide +kernel
theorem dX9_wantValue_32 : decode cX9_wantValue 32 = .ok (.invokevirtual 229, 3) := by decide +kernel
theorem dX9_wantValue_35 : decode cX9_wantValue 35 = .ok (.aload_n 0, 1) := by decide +kernel
theorem dX9_wantValue_36 : decode cX9_wantValue 36 = .ok (.invokevirtual 270, 3) := by decide +kernel
theorem dX9_wantValue_39 : decode cX9_wantValue 39 = .ok (.istore_n 2, 1) := by decide +kernel
theorem dX9_wantValue_40 : decode cX9_wantValue 40 = .ok (.aload_n 0, 1) := by decide +kernel
theorem dX9_wantValue_41 : decode cX9_wantValue 41 = .ok (.sipush 1000, 3) := by decide +kernel
theorem dX9_wantValue_44 : decode cX9_wantValue 44 = .ok (.iload_n 2, 1) := by decide +kernel
theorem dX9_wantValue_45 : decode cX9_wantValue 45 = .ok (.iadd, 1) := by decide +kernel
theorem dX9_wantValue_46 : decode cX9_wantValue 46 = .ok (.invokevirtual 245, 3) := by decide +kernel
theorem dX9_wantValue_49 : decode cX9_wantValue 49 = .ok (.goto 17, 3) := by decide +kernel
theorem dX9_wantValue_52 : decode cX9_wantValue 52 = .ok (.aload_n 0, 1) := by decide +kernel
theorem dX9_wantValue_53 : decode cX9_wantValue 53 = .ok (.invokevirtual 270, 3) := by decide +kernel
theorem dX9_wantValue_56 : decode cX9_wantValue 56 = .ok (.istore_n 2, 1) := by decide +kernel
theorem dX9_wantValue_57 : decode cX9_wantValue 57 = .ok (.aload_n 0, 1) := by decide +kernel
theorem dX9_wantValue_58 : decode cX9_wantValue 58 = .ok (.sipush 3000, 3) := by decide +kernel
theorem dX9_wantValue_61 : decode cX9_wantValue 61 = .ok (.iload_n 2, 1) := by decide +kernel
theorem dX9_wantValue_62 : decode cX9_wantValue 62 = .ok (.iadd, 1) := by decide +kernel
theorem dX9_wantValue_63 : decode cX9_wantValue 63 = .ok (.invokevirtual 245, 3) := by decide +kernel
theorem dX9_wantValue_66 : decode cX9_wantValue 66 = .ok (.return_, 1) := by decide +kernel
theorem dX9_wantAsk_0 : decode cX9_wantAsk 0 = .ok (.aload_n 0, 1) := by decide +kernel
theorem dX9_wantAsk_1 : decode cX9_wantAsk 1 = .ok (.invokevirtual 273, 3) := by decide +kernel
theorem dX9_wantAsk_4 : decode cX9_wantAsk 4 = .ok (.aload_n 0, 1) := by decide +kernel
theorem dX9_wantAsk_5 : decode cX9_wantAsk 5 = .ok (.bipush 60, 2) := by decide +kernel
theorem dX9_wantAsk_7 : decode cX9_wantAsk 7 = .ok (.invokevirtual 276, 3) := by decide +kernel
theorem dX9_wantAsk_10 : decode cX9_wantAsk 10 = .ok (.ifCond .eq 8, 3) := by decide +kernel
theorem dX9_wantAsk_13 : decode cX9_wantAsk 13 = .ok (.bipush 15, 2) := by decide +kernel
theorem dX9_wantAsk_15 : decode cX9_wantAsk 15 = .ok (.goto 32, 3) := by decide +kernel
theorem dX9_wantAsk_18 : decode cX9_wantAsk 18 = .ok (.aload_n 0, 1) := by decide +kernel
theorem dX9_wantAsk_19 : decode cX9_wantAsk 19 = .ok (.bipush 61, 2) := by decide +kernel
theorem dX9_wantAsk_21 : decode cX9_wantAsk 21 = .ok (.invokevirtual 276, 3) := by decide +kernel
theorem dX9_wantAsk_24 : decode cX9_wantAsk 24 = .ok (.ifCond .eq 8, 3) := by decide +kernel
theorem dX9_wantAsk_27 : decode cX9_wantAsk 27 = .ok (.bipush 16, 2) := by decide +kernel
theorem dX9_wantAsk_29 : decode cX9_wantAsk 29 = .ok (.goto 18, 3) := by decide +kernel
theorem dX9_wantAsk_32 : decode cX9_wantAsk 32 = .ok (.aload_n 0, 1) := by decide +kernel
theorem dX9_wantAsk_33 : decode cX9_wantAsk 33 = .ok (.bipush 62, 2) := by decide +kernel
theorem dX9_wantAsk_35 : decode cX9_wantAsk 35 = .ok (.invokevirtual 276, 3) := by decide +kernel
theorem dX9_wantAsk_38 : decode cX9_wantAsk 38 = .ok (.ifCond .eq 8, 3) := by decide +kernel
theorem dX9_wantAsk_41 : decode cX9_wantAsk 41 = .ok (.bipush 17, 2) := by decide +kernel
theorem dX9_wantAsk_43 : decode cX9_wantAsk 43 = .ok (.goto 4, 3) := by decide +kernel
theorem dX9_wantAsk_46 : decode cX9_wantAsk 46 = .ok (.iconst 0, 1) := by decide +kernel
theorem dX9_wantAsk_47 : decode cX9_wantAsk 47 = .ok (.istore_n 1, 1) := by decide +kernel
theorem dX9_wantAsk_48 : decode cX9_wantAsk 48 = .ok (.aload_n 0, 1) := by decide +kernel
theorem dX9_wantAsk_49 : decode cX9_wantAsk 49 = .ok (.iload_n 1, 1) := by decide +kernel
theorem dX9_wantAsk_50 : decode cX9_wantAsk 50 = .ok (.ifCond .le 7, 3) := by decide +kernel
theorem dX9_wantAsk_53 : decode cX9_wantAsk 53 = .ok (.iconst 1, 1) := by decide +kernel
theorem dX9_wantAsk_54 : decode cX9_wantAsk 54 = .ok (.goto 4, 3) := by decide +kernel
theorem dX9_wantAsk_57 : decode cX9_wantAsk 57 = .ok (.iconst 0, 1) := by decide +kernel
theorem dX9_wantAsk_58 : decode cX9_wantAsk 58 = .ok (.invokevirtual 235, 3) := by decide +kernel
theorem dX9_wantAsk_61 : decode cX9_wantAsk 61 = .ok (.aload_n 0, 1) := by decide +kernel
theorem dX9_wantAsk_62 : decode cX9_wantAsk 62 = .ok (.invokevirtual 225, 3) := by decide +kernel
theorem dX9_wantAsk_65 : decode cX9_wantAsk 65 = .ok (.ifCond .eq 12, 3) := by decide +kernel
theorem dX9_wantAsk_68 : decode cX9_wantAsk 68 = .ok (.aload_n 0, 1) := by decide +kernel
theorem dX9_wantAsk_69 : decode cX9_wantAsk 69 = .ok (.invokevirtual 273, 3) := by decide +kernel
theorem dX9_wantAsk_72 : decode cX9_wantAsk 72 = .ok (.aload_n 0, 1) := by decide +kernel
theorem dX9_wantAsk_73 : decode cX9_wantAsk 73 = .ok (.iload_n 1, 1) := by decide +kernel
theorem dX9_wantAsk_74 : decode cX9_wantAsk 74 = .ok (.invokevirtual 245, 3) := by decide +kernel
theorem dX9_wantAsk_77 : decode cX9_wantAsk 77 = .ok (.return_, 1) := by decide +kernel
theorem dX9_wantCond_0 : decode cX9_wantCond 0 = .ok (.iconst 0, 1) := by decide +kernel
theorem dX9_wantCond_1 : decode cX9_wantCond 1 = .ok (.istore_n 1, 1) := by decide +kernel
theorem dX9_wantCond_2 : decode cX9_wantCond 2 = .ok (.iconst 1, 1) := by decide +kernel
theorem dX9_wantCond_3 : decode cX9_wantCond 3 = .ok (.istore_n 2, 1) := by decide +kernel
theorem dX9_wantCond_4 : decode cX9_wantCond 4 = .ok (.iconst 1, 1) := by decide +kernel
theorem dX9_wantCond_5 : decode cX9_wantCond 5 = .ok (.istore_n 3, 1) := by decide +kernel
theorem dX9_wantCond_6 : decode cX9_wantCond 6 = .ok (.aload_n 0, 1) := by decide +kernel
theorem dX9_wantCond_7 : decode cX9_wantCond 7 = .ok (.iconst 0, 1) := by decide +kernel
theorem dX9_wantCond_8 : decode cX9_wantCond 8 = .ok (.putfield 242, 3) := by decide +kernel
theorem dX9_wantCond_11 : decode cX9_wantCond 11 = .ok (.iload_n 3, 1) := by decide +kernel
theorem dX9_wantCond_12 : decode cX9_wantCond 12 = .ok (.ifCond .eq 184, 3) := by decide +kernel
theorem dX9_wantCond_15 : decode cX9_wantCond 15 = .ok (.aload_n 0, 1) := by decide +kernel
theorem dX9_wantCond_16 : decode cX9_wantCond 16 = .ok (.invokevirtual 225, 3) := by decide +kernel
theorem dX9_wantCond_19 : decode cX9_wantCond 19 = .ok (.ifCond .eq 177, 3) := by decide +kernel
theorem dX9_wantCond_22 : decode cX9_wantCond 22 = .ok (.iload_n 2, 1) := by decide +kernel
theorem dX9_wantCond_23 : decode cX9_wantCond 23 = .ok (.ifCond .eq 70, 3) := by decide +kernel
theorem dX9_wantCond_26 : decode cX9_wantCond 26 = .ok (.aload_n 0, 1) := by decide +kernel
theorem dX9_wantCond_27 : decode cX9_wantCond 27 = .ok (.ldc2_w 279, 3) := by decide +kernel
theorem dX9_wantCond_30 : decode cX9_wantCond 30 = .ok (.invokevirtual 251, 3) := by decide +kernel
theorem dX9_wantCond_33 : decode cX9_wantCond 33 = .ok (.ifCond .eq 12, 3) := by decide +kernel
theorem dX9_wantCond_36 : decode cX9_wantCond 36 = .ok (.aload_n 0, 1) := by decide +kernel
theorem dX9_wantCond_37 : decode cX9_wantCond 37 = .ok (.bipush 7, 2) := by decide +kernel
theorem dX9_wantCond_39 : decode cX9_wantCond 39 = .ok (.invokevirtual 281, 3) := by decide +kernel
theorem dX9_wantCond_42 : decode cX9_wantCond 42 = .ok (.goto (-31), 3) := by decide +kernel
theorem dX9_wantCond_45 : decode cX9_wantCond 45 = .ok (.aload_n 0, 1) := by decide +kernel
theorem dX9_wantCond_46 : decode cX9_wantCond 46 = .ok (.bipush 40, 2) := by decide +kernel
theorem dX9_wantCond_48 : decode cX9_wantCond 48 = .ok (.invokevirtual 276, 3) := by decide +kernel
theorem dX9_wantCond_51 : decode cX9_wantCond 51 = .ok (.ifCond .eq 27, 3) := by decide +kernel
theorem dX9_wantCond_54 : decode cX9_wantCond 54 = .ok (.iload_n 1, 1) := by decide +kernel
theorem dX9_wantCond_55 : decode cX9_wantCond 55 = .ok (.iconst 3, 1) := by decide +kernel
theorem dX9_wantCond_56 : decode cX9_wantCond 56 = .ok (.if_icmp .ne 10, 3) := by decide +kernel
theorem dX9_wantCond_59 : decode cX9_wantCond 59 = .ok (.aload_n 0, 1) := by decide +kernel
theorem dX9_wantCond_60 : decode cX9_wantCond 60 = .ok (.invokevirtual 232, 3) := by decide +kernel
theorem dX9_wantCond_63 : decode cX9_wantCond 63 = .ok (.goto (-52), 3) := by decide +kernel
theorem dX9_wantCond_66 : decode cX9_wantCond 66 = .ok (.aload_n 0, 1) := by decide +kernel
theorem dX9_wantCond_67 : decode cX9_wantCond 67 = .ok (.bipush 10, 2) := by decide +kernel
theorem dX9_wantCond_69 : decode cX9_wantCond 69 = .ok (.invokevirtual 281, 3) := by decide +kernel
theorem dX9_wantCond_72 : decode cX9_wantCond 72 = .ok (.iinc 1 1, 3) := by decide +kernel
theorem dX9_wantCond_75 : decode cX9_wantCond 75 = .ok (.goto (-64), 3) := by decide +kernel
theorem dX9_wantCond_78 : decode cX9_wantCond 78 = .ok (.aload_n 0, 1) := by decide +kernel
theorem dX9_wantCond_79 : decode cX9_wantCond 79 = .ok (.invokevirtual 284, 3) := by decide +kernel
theorem dX9_wantCond_82 : decode cX9_wantCond 82 = .ok (.aload_n 0, 1) := by decide +kernel
theorem dX9_wantCond_83 : decode cX9_wantCond 83 = .ok (.bipush 7, 2) := by decide +kernel
theorem dX9_wantCond_85 : decode cX9_wantCond 85 = .ok (.invokevirtual 287, 3) := by decide +kernel
theorem dX9_wantCond_88 : decode cX9_wantCond 88 = .ok (.iconst 0, 1) := by decide +kernel
theorem dX9_wantCond_89 : decode cX9_wantCond 89 = .ok (.istore_n 2, 1) := by decide +kernel
theorem dX9_wantCond_90 : decode cX9_wantCond 90 = .ok (.goto (-79), 3) := by decide +kernel
theorem dX9_wantCond_93 : decode cX9_wantCond 93 = .ok (.aload_n 0, 1) := by decide +kernel
theorem dX9_wantCond_94 : decode cX9_wantCond 94 = .ok (.ldc2_w 290, 3) := by decide +kernel
theorem dX9_wantCond_97 : decode cX9_wantCond 97 = .ok (.invokevirtual 251, 3) := by decide +kernel
theorem dX9_wantCond_100 : decode cX9_wantCond 100 = .ok (.ifCond .ne 13, 3) := by decide +kernel
theorem dX9_wantCond_103 : decode cX9_wantCond 103 = .ok (.aload_n 0, 1) := by decide +kernel
theorem dX9_wantCond_104 : decode cX9_wantCond 104 = .ok (.ldc2_w 292, 3) := by decide +kernel
theorem dX9_wantCond_107 : decode cX9_wantCond 107 = .ok (.invokevirtual 251, 3) := by decide +kernel
theorem dX9_wantCond_110 : decode cX9_wantCond 110 = .ok (.ifCond .eq 39, 3) := by decide +kernel
theorem dX9_wantCond_113 : decode cX9_wantCond 113 = .ok (.aload_n 0, 1) := by decide +kernel
theorem dX9_wantCond_114 : decode cX9_wantCond 114 = .ok (.ldc2_w 290, 3) := by decide +kernel
theorem dX9_wantCond_117 : decode cX9_wantCond 117 = .ok (.invokevirtual 251, 3) := by decide +kernel
theorem dX9_wantCond_120 : decode cX9_wantCond 120 = .ok (.ifCond .eq 8, 3) := by decide +kernel
theorem dX9_wantCond_123 : decode cX9_wantCond 123 = .ok (.bipush 8, 2) := by decide +kernel
theorem dX9_wantCond_125 : decode cX9_wantCond 125 = .ok (.goto 5, 3) := by decide +kernel
theorem dX9_wantCond_128 : decode cX9_wantCond 128 = .ok (.bipush 9, 2) := by decide +kernel
theorem dX9_wantCond_130 : decode cX9_wantCond 130 = .ok (.istore 4, 2) := by decide +kernel
theorem dX9_wantCond_132 : decode cX9_wantCond 132 = .ok (.aload_n 0, 1) := by decide +kernel
theorem dX9_wantCond_133 : decode cX9_wantCond 133 = .ok (.iload 4, 2) := by decide +kernel
theorem dX9_wantCond_135 : decode cX9_wantCond 135 = .ok (.invokevirtual 287, 3) := by decide +kernel
theorem dX9_wantCond_138 : decode cX9_wantCond 138 = .ok (.aload_n 0, 1) := by decide +kernel
theorem dX9_wantCond_139 : decode cX9_wantCond 139 = .ok (.iload 4, 2) := by decide +kernel
theorem dX9_wantCond_141 : decode cX9_wantCond 141 = .ok (.invokevirtual 281, 3) := by decide +kernel
theorem dX9_wantCond_144 : decode cX9_wantCond 144 = .ok (.iconst 1, 1) := by decide +kernel
theorem dX9_wantCond_145 : decode cX9_wantCond 145 = .ok (.istore_n 2, 1) := by decide +kernel
theorem dX9_wantCond_146 : decode cX9_wantCond 146 = .ok (.goto (-135), 3) := by decide +kernel
theorem dX9_wantCond_149 : decode cX9_wantCond 149 = .ok (.iload_n 1, 1) := by decide +kernel
theorem dX9_wantCond_150 : decode cX9_wantCond 150 = .ok (.ifCond .le 41, 3) := by decide +kernel
theorem dX9_wantCond_153 : decode cX9_wantCond 153 = .ok (.aload_n 0, 1) := by decide +kernel
theorem dX9_wantCond_154 : decode cX9_wantCond 154 = .ok (.bipush 9, 2) := by decide +kernel
theorem dX9_wantCond_156 : decode cX9_wantCond 156 = .ok (.invokevirtual 287, 3) := by decide +kernel
theorem dX9_wantCond_159 : decode cX9_wantCond 159 = .ok (.aload_n 0, 1) := by decide +kernel
theorem dX9_wantCond_160 : decode cX9_wantCond 160 = .ok (.dup, 1) := by decide +kernel
theorem dX9_wantCond_161 : decode cX9_wantCond 161 = .ok (.getfield 242, 3) := by decide +kernel
theorem dX9_wantCond_164 : decode cX9_wantCond 164 = .ok (.iconst 1, 1) := by decide +kernel
theorem dX9_wantCond_165 : decode cX9_wantCond 165 = .ok (.isub, 1) := by decide +kernel
theorem dX9_wantCond_166 : decode cX9_wantCond 166 = .ok (.putfield 242, 3) := by decide +kernel
theorem dX9_wantCond_169 : decode cX9_wantCond 169 = .ok (.iinc 1 (-1), 3) := by decide +kernel
theorem dX9_wantCond_172 : decode cX9_wantCond 172 = .ok (.aload_n 0, 1) := by decide +kernel
theorem dX9_wantCond_173 : decode cX9_wantCond 173 = .ok (.aload_n 0, 1) := by decide +kernel
theorem dX9_wantCond_174 : decode cX9_wantCond 174 = .ok (.bipush 41, 2) := by decide +kernel
theorem dX9_wantCond_176 : decode cX9_wantCond 176 = .ok (.invokevirtual 276, 3) := by decide +kernel
theorem dX9_wantCond_179 : decode cX9_wantCond 179 = .ok (.invokevirtual 235, 3) := by decide +kernel
theorem dX9_wantCond_182 : decode cX9_wantCond 182 = .ok (.aload_n 0, 1) := by decide +kernel
theorem dX9_wantCond_183 : decode cX9_wantCond 183 = .ok (.bipush 7, 2) := by decide +kernel
theorem dX9_wantCond_185 : decode cX9_wantCond 185 = .ok (.invokevirtual 287, 3) := by decide +kernel
theorem dX9_wantCond_188 : decode cX9_wantCond 188 = .ok (.goto (-177), 3) := by decide +kernel
theorem dX9_wantCond_191 : decode cX9_wantCond 191 = .ok (.iconst 0, 1) := by decide +kernel
theorem dX9_wantCond_192 : decode cX9_wantCond 192 = .ok (.istore_n 3, 1) := by decide +kernel
theorem dX9_wantCond_193 : decode cX9_wantCond 193 = .ok (.goto (-182), 3) := by decide +kernel
theorem dX9_wantCond_196 : decode cX9_wantCond 196 = .ok (.aload_n 0, 1) := by decide +kernel
theorem dX9_wantCond_197 : decode cX9_wantCond 197 = .ok (.bipush 9, 2) := by decide +kernel
theorem dX9_wantCond_199 : decode cX9_wantCond 199 = .ok (.invokevirtual 287, 3) := by decide +kernel
theorem dX9_wantCond_202 : decode cX9_wantCond 202 = .ok (.return_, 1) := by decide +kernel
theorem dX9_read_0 : decode cX9_read 0 = .ok (.aload_n 0, 1) := by decide +kernel
theorem dX9_read_1 : decode cX9_read 1 = .ok (.iconst (-1), 1) := by decide +kernel
theorem dX9_read_2 : decode cX9_read 2 = .ok (.putfield 222, 3) := by decide +kernel
theorem dX9_read_5 : decode cX9_read 5 = .ok (.aload_n 0, 1) := by decide +kernel
theorem dX9_read_6 : decode cX9_read 6 = .ok (.iconst 0, 1) := by decide +kernel
theorem dX9_read_7 : decode cX9_read 7 = .ok (.putfield 195, 3) := by decide +kernel
theorem dX9_read_10 : decode cX9_read 10 = .ok (.aload_n 0, 1) := by decide +kernel
theorem dX9_read_11 : decode cX9_read 11 = .ok (.iconst 0, 1) := by decide +kernel
theorem dX9_read_12 : decode cX9_read 12 = .ok (.putfield 239, 3) := by decide +kernel
theorem dX9_read_15 : decode cX9_read 15 = .ok (.aload_n 0, 1) := by decide +kernel
theorem dX9_read_16 : decode cX9_read 16 = .ok (.invokevirtual 229, 3) := by decide +kernel
theorem dX9_read_19 : decode cX9_read 19 = .ok (.iconst 0, 1) := by decide +kernel
theorem dX9_read_20 : decode cX9_read 20 = .ok (.istore_n 1, 1) := by decide +kernel
theorem dX9_read_21 : decode cX9_read 21 = .ok (.aload_n 0, 1) := by decide +kernel
theorem dX9_read_22 : decode cX9_read 22 = .ok (.getfield 205, 3) := by decide +kernel
theorem dX9_read_25 : decode cX9_read 25 = .ok (.ifCond .eq 106, 3) := by decide +kernel
theorem dX9_read_28 : decode cX9_read 28 = .ok (.aload_n 0, 1) := by decide +kernel
theorem dX9_read_29 : decode cX9_read 29 = .ok (.invokevirtual 225, 3) := by decide +kernel
theorem dX9_read_32 : decode cX9_read 32 = .ok (.ifCond .eq 99, 3) := by decide +kernel
theorem dX9_read_35 : decode cX9_read 35 = .ok (.aload_n 0, 1) := by decide +kernel
theorem dX9_read_36 : decode cX9_read 36 = .ok (.ldc2_w 294, 3) := by decide +kernel
theorem dX9_read_39 : decode cX9_read 39 = .ok (.invokevirtual 251, 3) := by decide +kernel
theorem dX9_read_42 : decode cX9_read 42 = .ok (.istore_n 2, 1) := by decide +kernel
theorem dX9_read_43 : decode cX9_read 43 = .ok (.aload_n 0, 1) := by decide +kernel
theorem dX9_read_44 : decode cX9_read 44 = .ok (.iload_n 2, 1) := by decide +kernel
theorem dX9_read_45 : decode cX9_read 45 = .ok (.ifCond .ne 13, 3) := by decide +kernel
theorem dX9_read_48 : decode cX9_read 48 = .ok (.aload_n 0, 1) := by decide +kernel
theorem dX9_read_49 : decode cX9_read 49 = .ok (.ldc2_w 296, 3) := by decide +kernel
theorem dX9_read_52 : decode cX9_read 52 = .ok (.invokevirtual 251, 3) := by decide +kernel
theorem dX9_read_55 : decode cX9_read 55 = .ok (.ifCond .eq 13, 3) := by decide +kernel
theorem dX9_read_58 : decode cX9_read 58 = .ok (.iload_n 1, 1) := by decide +kernel
theorem dX9_read_59 : decode cX9_read 59 = .ok (.bipush 6, 2) := by decide +kernel
theorem dX9_read_61 : decode cX9_read 61 = .ok (.if_icmp .ge 7, 3) := by decide +kernel
theorem dX9_read_64 : decode cX9_read 64 = .ok (.iconst 1, 1) := by decide +kernel
theorem dX9_read_65 : decode cX9_read 65 = .ok (.goto 4, 3) := by decide +kernel
theorem dX9_read_68 : decode cX9_read 68 = .ok (.iconst 0, 1) := by decide +kernel
theorem dX9_read_69 : decode cX9_read 69 = .ok (.invokevirtual 235, 3) := by decide +kernel
theorem dX9_read_72 : decode cX9_read 72 = .ok (.aload_n 0, 1) := by decide +kernel
theorem dX9_read_73 : decode cX9_read 73 = .ok (.invokevirtual 225, 3) := by decide +kernel
theorem dX9_read_76 : decode cX9_read 76 = .ok (.ifCond .eq 17, 3) := by decide +kernel
theorem dX9_read_79 : decode cX9_read 79 = .ok (.aload_n 0, 1) := by decide +kernel
theorem dX9_read_80 : decode cX9_read 80 = .ok (.invokevirtual 298, 3) := by decide +kernel
theorem dX9_read_83 : decode cX9_read 83 = .ok (.aload_n 0, 1) := by decide +kernel
theorem dX9_read_84 : decode cX9_read 84 = .ok (.aload_n 0, 1) := by decide +kernel
theorem dX9_read_85 : decode cX9_read 85 = .ok (.bipush 59, 2) := by decide +kernel
theorem dX9_read_87 : decode cX9_read 87 = .ok (.invokevirtual 276, 3) := by decide +kernel
theorem dX9_read_90 : decode cX9_read 90 = .ok (.invokevirtual 235, 3) := by decide +kernel
theorem dX9_read_93 : decode cX9_read 93 = .ok (.aload_n 0, 1) := by decide +kernel
theorem dX9_read_94 : decode cX9_read 94 = .ok (.invokevirtual 225, 3) := by decide +kernel
theorem dX9_read_97 : decode cX9_read 97 = .ok (.ifCond .eq 31, 3) := by decide +kernel
theorem dX9_read_100 : decode cX9_read 100 = .ok (.aload_n 0, 1) := by decide +kernel
theorem dX9_read_101 : decode cX9_read 101 = .ok (.getfield 49, 3) := by decide +kernel
theorem dX9_read_104 : decode cX9_read 104 = .ok (.iload_n 1, 1) := by decide +kernel
theorem dX9_read_105 : decode cX9_read 105 = .ok (.aload_n 0, 1) := by decide +kernel
theorem dX9_read_106 : decode cX9_read 106 = .ok (.getfield 239, 3) := by decide +kernel
theorem dX9_read_109 : decode cX9_read 109 = .ok (.iastore, 1) := by decide +kernel
theorem dX9_read_110 : decode cX9_read 110 = .ok (.aload_n 0, 1) := by decide +kernel
theorem dX9_read_111 : decode cX9_read 111 = .ok (.getfield 52, 3) := by decide +kernel
theorem dX9_read_114 : decode cX9_read 114 = .ok (.iload_n 1, 1) := by decide +kernel
theorem dX9_read_115 : decode cX9_read 115 = .ok (.iload_n 2, 1) := by decide +kernel
theorem dX9_read_116 : decode cX9_read 116 = .ok (.ifCond .eq 7, 3) := by decide +kernel
theorem dX9_read_119 : decode cX9_read 119 = .ok (.iconst 1, 1) := by decide +kernel
theorem dX9_read_120 : decode cX9_read 120 = .ok (.goto 4, 3) := by decide +kernel
theorem dX9_read_123 : decode cX9_read 123 = .ok (.iconst 0, 1) := by decide +kernel
theorem dX9_read_124 : decode cX9_read 124 = .ok (.iastore, 1) := by decide +kernel
theorem dX9_read_125 : decode cX9_read 125 = .ok (.iinc 1 1, 3) := by decide +kernel
theorem dX9_read_128 : decode cX9_read 128 = .ok (.goto (-107), 3) := by decide +kernel
theorem dX9_read_131 : decode cX9_read 131 = .ok (.aload_n 0, 1) := by decide +kernel
theorem dX9_read_132 : decode cX9_read 132 = .ok (.iconst 0, 1) := by decide +kernel
theorem dX9_read_133 : decode cX9_read 133 = .ok (.putfield 190, 3) := by decide +kernel
theorem dX9_read_136 : decode cX9_read 136 = .ok (.aload_n 0, 1) := by decide +kernel
theorem dX9_read_137 : decode cX9_read 137 = .ok (.invokevirtual 225, 3) := by decide +kernel
theorem dX9_read_140 : decode cX9_read 140 = .ok (.ifCond .ne 11, 3) := by decide +kernel
theorem dX9_read_143 : decode cX9_read 143 = .ok (.bipush (-100), 2) := by decide +kernel
theorem dX9_read_145 : decode cX9_read 145 = .ok (.aload_n 0, 1) := by decide +kernel
theorem dX9_read_146 : decode cX9_read 146 = .ok (.getfield 222, 3) := by decide +kernel
theorem dX9_read_149 : decode cX9_read 149 = .ok (.isub, 1) := by decide +kernel
theorem dX9_read_150 : decode cX9_read 150 = .ok (.ireturn, 1) := by decide +kernel
theorem dX9_read_151 : decode cX9_read 151 = .ok (.aload_n 0, 1) := by decide +kernel
theorem dX9_read_152 : decode cX9_read 152 = .ok (.iload_n 1, 1) := by decide +kernel
theorem dX9_read_153 : decode cX9_read 153 = .ok (.putfield 301, 3) := by decide +kernel
theorem dX9_read_156 : decode cX9_read 156 = .ok (.iconst 0, 1) := by decide +kernel
theorem dX9_read_157 : decode cX9_read 157 = .ok (.istore_n 2, 1) := by decide +kernel
theorem dX9_read_158 : decode cX9_read 158 = .ok (.iload_n 2, 1) := by decide +kernel
theorem dX9_read_159 : decode cX9_read 159 = .ok (.iload_n 1, 1) := by decide +kernel
theorem dX9_read_160 : decode cX9_read 160 = .ok (.if_icmp .ge 33, 3) := by decide +kernel
theorem dX9_read_163 : decode cX9_read 163 = .ok (.aload_n 0, 1) := by decide +kernel
theorem dX9_read_164 : decode cX9_read 164 = .ok (.getfield 28, 3) := by decide +kernel
theorem dX9_read_167 : decode cX9_read 167 = .ok (.iload_n 2, 1) := by decide +kernel
theorem dX9_read_168 : decode cX9_read 168 = .ok (.aload_n 0, 1) := by decide +kernel
theorem dX9_read_169 : decode cX9_read 169 = .ok (.getfield 49, 3) := by decide +kernel
theorem dX9_read_172 : decode cX9_read 172 = .ok (.iload_n 2, 1) := by decide +kernel
theorem dX9_read_173 : decode cX9_read 173 = .ok (.iaload, 1) := by decide +kernel
theorem dX9_read_174 : decode cX9_read 174 = .ok (.iastore, 1) := by decide +kernel
theorem dX9_read_175 : decode cX9_read 175 = .ok (.aload_n 0, 1) := by decide +kernel
theorem dX9_read_176 : decode cX9_read 176 = .ok (.getfield 31, 3) := by decide +kernel
theorem dX9_read_179 : decode cX9_read 179 = .ok (.iload_n 2, 1) := by decide +kernel
theorem dX9_read_180 : decode cX9_read 180 = .ok (.aload_n 0, 1) := by decide +kernel
theorem dX9_read_181 : decode cX9_read 181 = .ok (.getfield 52, 3) := by decide +kernel
theorem dX9_read_184 : decode cX9_read 184 = .ok (.iload_n 2, 1) := by decide +kernel
theorem dX9_read_185 : decode cX9_read 185 = .ok (.iaload, 1) := by decide +kernel
theorem dX9_read_186 : decode cX9_read 186 = .ok (.iastore, 1) := by decide +kernel
theorem dX9_read_187 : decode cX9_read 187 = .ok (.iinc 2 1, 3) := by decide +kernel
theorem dX9_read_190 : decode cX9_read 190 = .ok (.goto (-32), 3) := by decide +kernel
theorem dX9_read_193 : decode cX9_read 193 = .ok (.iconst 0, 1) := by decide +kernel
theorem dX9_read_194 : decode cX9_read 194 = .ok (.istore_n 2, 1) := by decide +kernel
theorem dX9_read_195 : decode cX9_read 195 = .ok (.iload_n 2, 1) := by decide +kernel
theorem dX9_read_196 : decode cX9_read 196 = .ok (.aload_n 0, 1) := by decide +kernel
theorem dX9_read_197 : decode cX9_read 197 = .ok (.getfield 239, 3) := by decide +kernel
theorem dX9_read_200 : decode cX9_read 200 = .ok (.if_icmp .ge 21, 3) := by decide +kernel
theorem dX9_read_203 : decode cX9_read 203 = .ok (.aload_n 0, 1) := by decide +kernel
theorem dX9_read_204 : decode cX9_read 204 = .ok (.getfield 34, 3) := by decide +kernel
theorem dX9_read_207 : decode cX9_read 207 = .ok (.iload_n 2, 1) := by decide +kernel
theorem dX9_read_208 : decode cX9_read 208 = .ok (.aload_n 0, 1) := by decide +kernel
theorem dX9_read_209 : decode cX9_read 209 = .ok (.getfield 43, 3) := by decide +kernel
theorem dX9_read_212 : decode cX9_read 212 = .ok (.iload_n 2, 1) := by decide +kernel
theorem dX9_read_213 : decode cX9_read 213 = .ok (.iaload, 1) := by decide +kernel
theorem dX9_read_214 : decode cX9_read 214 = .ok (.iastore, 1) := by decide +kernel
theorem dX9_read_215 : decode cX9_read 215 = .ok (.iinc 2 1, 3) := by decide +kernel
theorem dX9_read_218 : decode cX9_read 218 = .ok (.goto (-23), 3) := by decide +kernel
theorem dX9_read_221 : decode cX9_read 221 = .ok (.iload_n 1, 1) := by decide +kernel
theorem dX9_read_222 : decode cX9_read 222 = .ok (.ireturn, 1) := by decide +kernel
theorem dX9_wrongOf_0 : decode cX9_wrongOf 0 = .ok (.iconst 0, 1) := by decide +kernel
theorem dX9_wrongOf_1 : decode cX9_wrongOf 1 = .ok (.istore_n 3, 1) := by decide +kernel
theorem dX9_wrongOf_2 : decode cX9_wrongOf 2 = .ok (.iconst 0, 1) := by decide +kernel
theorem dX9_wrongOf_3 : decode cX9_wrongOf 3 = .ok (.istore 4, 2) := by decide +kernel
theorem dX9_wrongOf_5 : decode cX9_wrongOf 5 = .ok (.iload 4, 2) := by decide +kernel
theorem dX9_wrongOf_7 : decode cX9_wrongOf 7 = .ok (.aload_n 0, 1) := by decide +kernel
theorem dX9_wrongOf_8 : decode cX9_wrongOf 8 = .ok (.getfield 97, 3) := by decide +kernel
theorem dX9_wrongOf_11 : decode cX9_wrongOf 11 = .ok (.if_icmp .ge 45, 3) := by decide +kernel
theorem dX9_wrongOf_14 : decode cX9_wrongOf 14 = .ok (.iload_n 3, 1) := by decide +kernel
theorem dX9_wrongOf_15 : decode cX9_wrongOf 15 = .ok (.aload_n 0, 1) := by decide +kernel
theorem dX9_wrongOf_16 : decode cX9_wrongOf 16 = .ok (.getfield 13, 3) := by decide +kernel
theorem dX9_wrongOf_19 : decode cX9_wrongOf 19 = .ok (.bipush 6, 2) := by decide +kernel
theorem dX9_wrongOf_21 : decode cX9_wrongOf 21 = .ok (.iload 4, 2) := by decide +kernel
theorem dX9_wrongOf_23 : decode cX9_wrongOf 23 = .ok (.imul, 1) := by decide +kernel
theorem dX9_wrongOf_24 : decode cX9_wrongOf 24 = .ok (.iaload, 1) := by decide +kernel
theorem dX9_wrongOf_25 : decode cX9_wrongOf 25 = .ok (.iload_n 1, 1) := by decide +kernel
theorem dX9_wrongOf_26 : decode cX9_wrongOf 26 = .ok (.if_icmp .ne 21, 3) := by decide +kernel
theorem dX9_wrongOf_29 : decode cX9_wrongOf 29 = .ok (.iload_n 2, 1) := by decide +kernel
theorem dX9_wrongOf_30 : decode cX9_wrongOf 30 = .ok (.ifCond .lt 17, 3) := by decide +kernel
theorem dX9_wrongOf_33 : decode cX9_wrongOf 33 = .ok (.aload_n 0, 1) := by decide +kernel
theorem dX9_wrongOf_34 : decode cX9_wrongOf 34 = .ok (.iload 4, 2) := by decide +kernel
theorem dX9_wrongOf_36 : decode cX9_wrongOf 36 = .ok (.iload_n 2, 1) := by decide +kernel
theorem dX9_wrongOf_37 : decode cX9_wrongOf 37 = .ok (.invokevirtual 121, 3) := by decide +kernel
theorem dX9_wrongOf_40 : decode cX9_wrongOf 40 = .ok (.ifCond .ne 7, 3) := by decide +kernel
theorem dX9_wrongOf_43 : decode cX9_wrongOf 43 = .ok (.iconst 1, 1) := by decide +kernel
theorem dX9_wrongOf_44 : decode cX9_wrongOf 44 = .ok (.goto 4, 3) := by decide +kernel
theorem dX9_wrongOf_47 : decode cX9_wrongOf 47 = .ok (.iconst 0, 1) := by decide +kernel
theorem dX9_wrongOf_48 : decode cX9_wrongOf 48 = .ok (.iadd, 1) := by decide +kernel
theorem dX9_wrongOf_49 : decode cX9_wrongOf 49 = .ok (.istore_n 3, 1) := by decide +kernel
theorem dX9_wrongOf_50 : decode cX9_wrongOf 50 = .ok (.iinc 4 1, 3) := by decide +kernel
theorem dX9_wrongOf_53 : decode cX9_wrongOf 53 = .ok (.goto (-48), 3) := by decide +kernel
theorem dX9_wrongOf_56 : decode cX9_wrongOf 56 = .ok (.iload_n 3, 1) := by decide +kernel
theorem dX9_wrongOf_57 : decode cX9_wrongOf 57 = .ok (.ireturn, 1) := by decide +kernel
theorem dX9_standingOf_0 : decode cX9_standingOf 0 = .ok (.aload_n 0, 1) := by decide +kernel
theorem dX9_standingOf_1 : decode cX9_standingOf 1 = .ok (.invokevirtual 183, 3) := by decide +kernel
theorem dX9_standingOf_4 : decode cX9_standingOf 4 = .ok (.istore_n 2, 1) := by decide +kernel
theorem dX9_standingOf_5 : decode cX9_standingOf 5 = .ok (.iconst 0, 1) := by decide +kernel
theorem dX9_standingOf_6 : decode cX9_standingOf 6 = .ok (.istore_n 3, 1) := by decide +kernel
theorem dX9_standingOf_7 : decode cX9_standingOf 7 = .ok (.iconst 0, 1) := by decide +kernel
theorem dX9_standingOf_8 : decode cX9_standingOf 8 = .ok (.istore 4, 2) := by decide +kernel
theorem dX9_standingOf_10 : decode cX9_standingOf 10 = .ok (.iload 4, 2) := by decide +kernel
theorem dX9_standingOf_12 : decode cX9_standingOf 12 = .ok (.aload_n 0, 1) := by decide +kernel
theorem dX9_standingOf_13 : decode cX9_standingOf 13 = .ok (.getfield 97, 3) := by decide +kernel
theorem dX9_standingOf_16 : decode cX9_standingOf 16 = .ok (.if_icmp .ge 36, 3) := by decide +kernel
theorem dX9_standingOf_19 : decode cX9_standingOf 19 = .ok (.iload_n 3, 1) := by decide +kernel
theorem dX9_standingOf_20 : decode cX9_standingOf 20 = .ok (.aload_n 0, 1) := by decide +kernel
theorem dX9_standingOf_21 : decode cX9_standingOf 21 = .ok (.getfield 13, 3) := by decide +kernel
theorem dX9_standingOf_24 : decode cX9_standingOf 24 = .ok (.bipush 6, 2) := by decide +kernel
theorem dX9_standingOf_26 : decode cX9_standingOf 26 = .ok (.iload 4, 2) := by decide +kernel
theorem dX9_standingOf_28 : decode cX9_standingOf 28 = .ok (.imul, 1) := by decide +kernel
theorem dX9_standingOf_29 : decode cX9_standingOf 29 = .ok (.iaload, 1) := by decide +kernel
theorem dX9_standingOf_30 : decode cX9_standingOf 30 = .ok (.iload_n 1, 1) := by decide +kernel
theorem dX9_standingOf_31 : decode cX9_standingOf 31 = .ok (.if_icmp .ne 12, 3) := by decide +kernel
theorem dX9_standingOf_34 : decode cX9_standingOf 34 = .ok (.iload_n 2, 1) := by decide +kernel
theorem dX9_standingOf_35 : decode cX9_standingOf 35 = .ok (.iload 4, 2) := by decide +kernel
theorem dX9_standingOf_37 : decode cX9_standingOf 37 = .ok (.ishr, 1) := by decide +kernel
theorem dX9_standingOf_38 : decode cX9_standingOf 38 = .ok (.iconst 1, 1) := by decide +kernel
theorem dX9_standingOf_39 : decode cX9_standingOf 39 = .ok (.iand, 1) := by decide +kernel
theorem dX9_standingOf_40 : decode cX9_standingOf 40 = .ok (.goto 4, 3) := by decide +kernel
theorem dX9_standingOf_43 : decode cX9_standingOf 43 = .ok (.iconst 0, 1) := by decide +kernel
theorem dX9_standingOf_44 : decode cX9_standingOf 44 = .ok (.iadd, 1) := by decide +kernel
theorem dX9_standingOf_45 : decode cX9_standingOf 45 = .ok (.istore_n 3, 1) := by decide +kernel
theorem dX9_standingOf_46 : decode cX9_standingOf 46 = .ok (.iinc 4 1, 3) := by decide +kernel
theorem dX9_standingOf_49 : decode cX9_standingOf 49 = .ok (.goto (-39), 3) := by decide +kernel
theorem dX9_standingOf_52 : decode cX9_standingOf 52 = .ok (.iload_n 3, 1) := by decide +kernel
theorem dX9_standingOf_53 : decode cX9_standingOf 53 = .ok (.ireturn, 1) := by decide +kernel
theorem dX9_hundredths_0 : decode cX9_hundredths 0 = .ok (.aload_n 0, 1) := by decide +kernel
theorem dX9_hundredths_1 : decode cX9_hundredths 1 = .ok (.iload_n 1, 1) := by decide +kernel
theorem dX9_hundredths_2 : decode cX9_hundredths 2 = .ok (.invokevirtual 149, 3) := by decide +kernel
theorem dX9_hundredths_5 : decode cX9_hundredths 5 = .ok (.lstore_n 3, 1) := by decide +kernel
theorem dX9_hundredths_6 : decode cX9_hundredths 6 = .ok (.lload_n 3, 1) := by decide +kernel
theorem dX9_hundredths_7 : decode cX9_hundredths 7 = .ok (.lconst 0, 1) := by decide +kernel
theorem dX9_hundredths_8 : decode cX9_hundredths 8 = .ok (.lcmp, 1) := by decide +kernel
theorem dX9_hundredths_9 : decode cX9_hundredths 9 = .ok (.ifCond .ne 7, 3) := by decide +kernel
theorem dX9_hundredths_12 : decode cX9_hundredths 12 = .ok (.iconst 0, 1) := by decide +kernel
theorem dX9_hundredths_13 : decode cX9_hundredths 13 = .ok (.goto 16, 3) := by decide +kernel
theorem dX9_hundredths_16 : decode cX9_hundredths 16 = .ok (.ldc2_w 131, 3) := by decide +kernel
theorem dX9_hundredths_19 : decode cX9_hundredths 19 = .ok (.aload_n 0, 1) := by decide +kernel
theorem dX9_hundredths_20 : decode cX9_hundredths 20 = .ok (.iload_n 1, 1) := by decide +kernel
theorem dX9_hundredths_21 : decode cX9_hundredths 21 = .ok (.iload_n 2, 1) := by decide +kernel
theorem dX9_hundredths_22 : decode cX9_hundredths 22 = .ok (.invokevirtual 158, 3) := by decide +kernel
theorem dX9_hundredths_25 : decode cX9_hundredths 25 = .ok (.lmul, 1) := by decide +kernel
theorem dX9_hundredths_26 : decode cX9_hundredths 26 = .ok (.lload_n 3, 1) := by decide +kernel
theorem dX9_hundredths_27 : decode cX9_hundredths 27 = .ok (.ldiv, 1) := by decide +kernel
theorem dX9_hundredths_28 : decode cX9_hundredths 28 = .ok (.l2i, 1) := by decide +kernel
theorem dX9_hundredths_29 : decode cX9_hundredths 29 = .ok (.ireturn, 1) := by decide +kernel
theorem dX9_valueOf_0 : decode cX9_valueOf 0 = .ok (.iload_n 1, 1) := by decide +kernel
theorem dX9_valueOf_1 : decode cX9_valueOf 1 = .ok (.sipush 3000, 3) := by decide +kernel
theorem dX9_valueOf_4 : decode cX9_valueOf 4 = .ok (.if_icmp .lt 9, 3) := by decide +kernel
theorem dX9_valueOf_7 : decode cX9_valueOf 7 = .ok (.iload_n 1, 1) := by decide +kernel
theorem dX9_valueOf_8 : decode cX9_valueOf 8 = .ok (.sipush 3000, 3) := by decide +kernel
theorem dX9_valueOf_11 : decode cX9_valueOf 11 = .ok (.isub, 1) := by decide +kernel
theorem dX9_valueOf_12 : decode cX9_valueOf 12 = .ok (.ireturn, 1) := by decide +kernel
theorem dX9_valueOf_13 : decode cX9_valueOf 13 = .ok (.iload_n 1, 1) := by decide +kernel
theorem dX9_valueOf_14 : decode cX9_valueOf 14 = .ok (.sipush 1000, 3) := by decide +kernel
theorem dX9_valueOf_17 : decode cX9_valueOf 17 = .ok (.if_icmp .lt 14, 3) := by decide +kernel
theorem dX9_valueOf_20 : decode cX9_valueOf 20 = .ok (.aload_n 0, 1) := by decide +kernel
theorem dX9_valueOf_21 : decode cX9_valueOf 21 = .ok (.iload_n 2, 1) := by decide +kernel
theorem dX9_valueOf_22 : decode cX9_valueOf 22 = .ok (.iload_n 1, 1) := by decide +kernel
theorem dX9_valueOf_23 : decode cX9_valueOf 23 = .ok (.sipush 1000, 3) := by decide +kernel
theorem dX9_valueOf_26 : decode cX9_valueOf 26 = .ok (.isub, 1) := by decide +kernel
theorem dX9_valueOf_27 : decode cX9_valueOf 27 = .ok (.invokevirtual 304, 3) := by decide +kernel
theorem dX9_valueOf_30 : decode cX9_valueOf 30 = .ok (.ireturn, 1) := by decide +kernel
theorem dX9_valueOf_31 : decode cX9_valueOf 31 = .ok (.iload_n 1, 1) := by decide +kernel
theorem dX9_valueOf_32 : decode cX9_valueOf 32 = .ok (.bipush 102, 2) := by decide +kernel
theorem dX9_valueOf_34 : decode cX9_valueOf 34 = .ok (.if_icmp .eq 9, 3) := by decide +kernel
theorem dX9_valueOf_37 : decode cX9_valueOf 37 = .ok (.iload_n 1, 1) := by decide +kernel
theorem dX9_valueOf_38 : decode cX9_valueOf 38 = .ok (.bipush 105, 2) := by decide +kernel
theorem dX9_valueOf_40 : decode cX9_valueOf 40 = .ok (.if_icmp .ne 11, 3) := by decide +kernel
theorem dX9_valueOf_43 : decode cX9_valueOf 43 = .ok (.aload_n 0, 1) := by decide +kernel
theorem dX9_valueOf_44 : decode cX9_valueOf 44 = .ok (.iload_n 2, 1) := by decide +kernel
theorem dX9_valueOf_45 : decode cX9_valueOf 45 = .ok (.invokevirtual 153, 3) := by decide +kernel
theorem dX9_valueOf_48 : decode cX9_valueOf 48 = .ok (.goto 4, 3) := by decide +kernel
theorem dX9_valueOf_51 : decode cX9_valueOf 51 = .ok (.iconst 0, 1) := by decide +kernel
theorem dX9_valueOf_52 : decode cX9_valueOf 52 = .ok (.istore_n 3, 1) := by decide +kernel
theorem dX9_valueOf_53 : decode cX9_valueOf 53 = .ok (.iload_n 1, 1) := by decide +kernel
theorem dX9_valueOf_54 : decode cX9_valueOf 54 = .ok (.tableswitch 77 100 104 #[34, 40, 46, 62, 68], 34) := by decide +kernel
theorem dX9_valueOf_88 : decode cX9_valueOf 88 = .ok (.aload_n 0, 1) := by decide +kernel
theorem dX9_valueOf_89 : decode cX9_valueOf 89 = .ok (.iload_n 2, 1) := by decide +kernel
theorem dX9_valueOf_90 : decode cX9_valueOf 90 = .ok (.invokevirtual 108, 3) := by decide +kernel
theorem dX9_valueOf_93 : decode cX9_valueOf 93 = .ok (.ireturn, 1) := by decide +kernel
theorem dX9_valueOf_94 : decode cX9_valueOf 94 = .ok (.aload_n 0, 1) := by decide +kernel
theorem dX9_valueOf_95 : decode cX9_valueOf 95 = .ok (.iload_n 2, 1) := by decide +kernel
theorem dX9_valueOf_96 : decode cX9_valueOf 96 = .ok (.invokevirtual 307, 3) := by decide +kernel
theorem dX9_valueOf_99 : decode cX9_valueOf 99 = .ok (.ireturn, 1) := by decide +kernel
theorem dX9_valueOf_100 : decode cX9_valueOf 100 = .ok (.iload_n 3, 1) := by decide +kernel
theorem dX9_valueOf_101 : decode cX9_valueOf 101 = .ok (.ifCond .ge 7, 3) := by decide +kernel
theorem dX9_valueOf_104 : decode cX9_valueOf 104 = .ok (.iconst 0, 1) := by decide +kernel
theorem dX9_valueOf_105 : decode cX9_valueOf 105 = .ok (.goto 10, 3) := by decide +kernel
theorem dX9_valueOf_108 : decode cX9_valueOf 108 = .ok (.aload_n 0, 1) := by decide +kernel
theorem dX9_valueOf_109 : decode cX9_valueOf 109 = .ok (.iload_n 2, 1) := by decide +kernel
theorem dX9_valueOf_110 : decode cX9_valueOf 110 = .ok (.invokevirtual 104, 3) := by decide +kernel
theorem dX9_valueOf_113 : decode cX9_valueOf 113 = .ok (.iload_n 3, 1) := by decide +kernel
theorem dX9_valueOf_114 : decode cX9_valueOf 114 = .ok (.isub, 1) := by decide +kernel
theorem dX9_valueOf_115 : decode cX9_valueOf 115 = .ok (.ireturn, 1) := by decide +kernel
theorem dX9_valueOf_116 : decode cX9_valueOf 116 = .ok (.aload_n 0, 1) := by decide +kernel
theorem dX9_valueOf_117 : decode cX9_valueOf 117 = .ok (.iload_n 2, 1) := by decide +kernel
theorem dX9_valueOf_118 : decode cX9_valueOf 118 = .ok (.invokevirtual 104, 3) := by decide +kernel
theorem dX9_valueOf_121 : decode cX9_valueOf 121 = .ok (.ireturn, 1) := by decide +kernel
theorem dX9_valueOf_122 : decode cX9_valueOf 122 = .ok (.aload_n 0, 1) := by decide +kernel
theorem dX9_valueOf_123 : decode cX9_valueOf 123 = .ok (.getfield 7, 3) := by decide +kernel
theorem dX9_valueOf_126 : decode cX9_valueOf 126 = .ok (.iconst 4, 1) := by decide +kernel
theorem dX9_valueOf_127 : decode cX9_valueOf 127 = .ok (.iload_n 2, 1) := by decide +kernel
theorem dX9_valueOf_128 : decode cX9_valueOf 128 = .ok (.imul, 1) := by decide +kernel
theorem dX9_valueOf_129 : decode cX9_valueOf 129 = .ok (.iaload, 1) := by decide +kernel
theorem dX9_valueOf_130 : decode cX9_valueOf 130 = .ok (.ireturn, 1) := by decide +kernel
theorem dX9_valueOf_131 : decode cX9_valueOf 131 = .ok (.aload_n 0, 1) := by decide +kernel
theorem dX9_valueOf_132 : decode cX9_valueOf 132 = .ok (.iload_n 2, 1) := by decide +kernel
theorem dX9_valueOf_133 : decode cX9_valueOf 133 = .ok (.iload_n 3, 1) := by decide +kernel
theorem dX9_valueOf_134 : decode cX9_valueOf 134 = .ok (.invokevirtual 310, 3) := by decide +kernel
theorem dX9_valueOf_137 : decode cX9_valueOf 137 = .ok (.ireturn, 1) := by decide +kernel
theorem dX9_joined_0 : decode cX9_joined 0 = .ok (.iload_n 0, 1) := by decide +kernel
theorem dX9_joined_1 : decode cX9_joined 1 = .ok (.tableswitch 81 8 16 #[51, 55, 81, 81, 81, 81, 81, 59, 70], 51) := by decide +kernel
theorem dX9_joined_52 : decode cX9_joined 52 = .ok (.iload_n 1, 1) := by decide +kernel
theorem dX9_joined_53 : decode cX9_joined 53 = .ok (.iload_n 2, 1) := by decide +kernel
theorem dX9_joined_54 : decode cX9_joined 54 = .ok (.iand, 1) := by decide +kernel
theorem dX9_joined_55 : decode cX9_joined 55 = .ok (.ireturn, 1) := by decide +kernel
theorem dX9_joined_56 : decode cX9_joined 56 = .ok (.iload_n 1, 1) := by decide +kernel
theorem dX9_joined_57 : decode cX9_joined 57 = .ok (.iload_n 2, 1) := by decide +kernel
theorem dX9_joined_58 : decode cX9_joined 58 = .ok (.ior, 1) := by decide +kernel
theorem dX9_joined_59 : decode cX9_joined 59 = .ok (.ireturn, 1) := by decide +kernel
theorem dX9_joined_60 : decode cX9_joined 60 = .ok (.iload_n 1, 1) := by decide +kernel
theorem dX9_joined_61 : decode cX9_joined 61 = .ok (.iload_n 2, 1) := by decide +kernel
theorem dX9_joined_62 : decode cX9_joined 62 = .ok (.if_icmp .ge 7, 3) := by decide +kernel
theorem dX9_joined_65 : decode cX9_joined 65 = .ok (.iconst 1, 1) := by decide +kernel
theorem dX9_joined_66 : decode cX9_joined 66 = .ok (.goto 4, 3) := by decide +kernel
theorem dX9_joined_69 : decode cX9_joined 69 = .ok (.iconst 0, 1) := by decide +kernel
theorem dX9_joined_70 : decode cX9_joined 70 = .ok (.ireturn, 1) := by decide +kernel
theorem dX9_joined_71 : decode cX9_joined 71 = .ok (.iload_n 1, 1) := by decide +kernel
theorem dX9_joined_72 : decode cX9_joined 72 = .ok (.iload_n 2, 1) := by decide +kernel
theorem dX9_joined_73 : decode cX9_joined 73 = .ok (.if_icmp .ne 7, 3) := by decide +kernel
theorem dX9_joined_76 : decode cX9_joined 76 = .ok (.iconst 1, 1) := by decide +kernel
theorem dX9_joined_77 : decode cX9_joined 77 = .ok (.goto 4, 3) := by decide +kernel
theorem dX9_joined_80 : decode cX9_joined 80 = .ok (.iconst 0, 1) := by decide +kernel
theorem dX9_joined_81 : decode cX9_joined 81 = .ok (.ireturn, 1) := by decide +kernel
theorem dX9_joined_82 : decode cX9_joined 82 = .ok (.iload_n 1, 1) := by decide +kernel
theorem dX9_joined_83 : decode cX9_joined 83 = .ok (.iload_n 2, 1) := by decide +kernel
theorem dX9_joined_84 : decode cX9_joined 84 = .ok (.if_icmp .le 7, 3) := by decide +kernel
theorem dX9_joined_87 : decode cX9_joined 87 = .ok (.iconst 1, 1) := by decide +kernel
theorem dX9_joined_88 : decode cX9_joined 88 = .ok (.goto 4, 3) := by decide +kernel
theorem dX9_joined_91 : decode cX9_joined 91 = .ok (.iconst 0, 1) := by decide +kernel
theorem dX9_joined_92 : decode cX9_joined 92 = .ok (.ireturn, 1) := by decide +kernel
theorem dX9_holds_0 : decode cX9_holds 0 = .ok (.iconst 0, 1) := by decide +kernel
theorem dX9_holds_1 : decode cX9_holds 1 = .ok (.istore_n 3, 1) := by decide +kernel
theorem dX9_holds_2 : decode cX9_holds 2 = .ok (.iload_n 1, 1) := by decide +kernel
theorem dX9_holds_3 : decode cX9_holds 3 = .ok (.ifCond .ne 7, 3) := by decide +kernel
theorem dX9_holds_6 : decode cX9_holds 6 = .ok (.iconst 0, 1) := by decide +kernel
theorem dX9_holds_7 : decode cX9_holds 7 = .ok (.goto 11, 3) := by decide +kernel
theorem dX9_holds_10 : decode cX9_holds 10 = .ok (.aload_n 0, 1) := by decide +kernel
theorem dX9_holds_11 : decode cX9_holds 11 = .ok (.getfield 28, 3) := by decide +kernel
theorem dX9_holds_14 : decode cX9_holds 14 = .ok (.iload_n 1, 1) := by decide +kernel
theorem dX9_holds_15 : decode cX9_holds 15 = .ok (.iconst 1, 1) := by decide +kernel
theorem dX9_holds_16 : decode cX9_holds 16 = .ok (.isub, 1) := by decide +kernel
theorem dX9_holds_17 : decode cX9_holds 17 = .ok (.iaload, 1) := by decide +kernel
theorem dX9_holds_18 : decode cX9_holds 18 = .ok (.istore 4, 2) := by decide +kernel
theorem dX9_holds_20 : decode cX9_holds 20 = .ok (.iload 4, 2) := by decide +kernel
theorem dX9_holds_22 : decode cX9_holds 22 = .ok (.aload_n 0, 1) := by decide +kernel
theorem dX9_holds_23 : decode cX9_holds 23 = .ok (.getfield 28, 3) := by decide +kernel
theorem dX9_holds_26 : decode cX9_holds 26 = .ok (.iload_n 1, 1) := by decide +kernel
theorem dX9_holds_27 : decode cX9_holds 27 = .ok (.iaload, 1) := by decide +kernel
theorem dX9_holds_28 : decode cX9_holds 28 = .ok (.if_icmp .ge 121, 3) := by decide +kernel
theorem dX9_holds_31 : decode cX9_holds 31 = .ok (.aload_n 0, 1) := by decide +kernel
theorem dX9_holds_32 : decode cX9_holds 32 = .ok (.getfield 34, 3) := by decide +kernel
theorem dX9_holds_35 : decode cX9_holds 35 = .ok (.iload 4, 2) := by decide +kernel
theorem dX9_holds_37 : decode cX9_holds 37 = .ok (.iaload, 1) := by decide +kernel
theorem dX9_holds_38 : decode cX9_holds 38 = .ok (.istore 5, 2) := by decide +kernel
theorem dX9_holds_40 : decode cX9_holds 40 = .ok (.iload 5, 2) := by decide +kernel
theorem dX9_holds_42 : decode cX9_holds 42 = .ok (.bipush 7, 2) := by decide +kernel
theorem dX9_holds_44 : decode cX9_holds 44 = .ok (.if_icmp .ne 24, 3) := by decide +kernel
theorem dX9_holds_47 : decode cX9_holds 47 = .ok (.aload_n 0, 1) := by decide +kernel
theorem dX9_holds_48 : decode cX9_holds 48 = .ok (.getfield 55, 3) := by decide +kernel
theorem dX9_holds_51 : decode cX9_holds 51 = .ok (.iload_n 3, 1) := by decide +kernel
theorem dX9_holds_52 : decode cX9_holds 52 = .ok (.iconst 1, 1) := by decide +kernel
theorem dX9_holds_53 : decode cX9_holds 53 = .ok (.isub, 1) := by decide +kernel
theorem dX9_holds_54 : decode cX9_holds 54 = .ok (.iconst 1, 1) := by decide +kernel
theorem dX9_holds_55 : decode cX9_holds 55 = .ok (.aload_n 0, 1) := by decide +kernel
theorem dX9_holds_56 : decode cX9_holds 56 = .ok (.getfield 55, 3) := by decide +kernel
theorem dX9_holds_59 : decode cX9_holds 59 = .ok (.iload_n 3, 1) := by decide +kernel
theorem dX9_holds_60 : decode cX9_holds 60 = .ok (.iconst 1, 1) := by decide +kernel
theorem dX9_holds_61 : decode cX9_holds 61 = .ok (.isub, 1) := by decide +kernel
theorem dX9_holds_62 : decode cX9_holds 62 = .ok (.iaload, 1) := by decide +kernel
theorem dX9_holds_63 : decode cX9_holds 63 = .ok (.isub, 1) := by decide +kernel
theorem dX9_holds_64 : decode cX9_holds 64 = .ok (.iastore, 1) := by decide +kernel
theorem dX9_holds_65 : decode cX9_holds 65 = .ok (.goto 78, 3) := by decide +kernel
theorem dX9_holds_68 : decode cX9_holds 68 = .ok (.iload 5, 2) := by decide +kernel
theorem dX9_holds_70 : decode cX9_holds 70 = .ok (.bipush 8, 2) := by decide +kernel
theorem dX9_holds_72 : decode cX9_holds 72 = .ok (.if_icmp .eq 22, 3) := by decide +kernel
theorem dX9_holds_75 : decode cX9_holds 75 = .ok (.iload 5, 2) := by decide +kernel
theorem dX9_holds_77 : decode cX9_holds 77 = .ok (.bipush 9, 2) := by decide +kernel
theorem dX9_holds_79 : decode cX9_holds 79 = .ok (.if_icmp .eq 15, 3) := by decide +kernel
theorem dX9_holds_82 : decode cX9_holds 82 = .ok (.iload 5, 2) := by decide +kernel
theorem dX9_holds_84 : decode cX9_holds 84 = .ok (.bipush 15, 2) := by decide +kernel
theorem dX9_holds_86 : decode cX9_holds 86 = .ok (.bipush 17, 2) := by decide +kernel
theorem dX9_holds_88 : decode cX9_holds 88 = .ok (.invokestatic 93, 3) := by decide +kernel
theorem dX9_holds_91 : decode cX9_holds 91 = .ok (.ifCond .eq 36, 3) := by decide +kernel
theorem dX9_holds_94 : decode cX9_holds 94 = .ok (.iinc 3 (-1), 3) := by decide +kernel
theorem dX9_holds_97 : decode cX9_holds 97 = .ok (.aload_n 0, 1) := by decide +kernel
theorem dX9_holds_98 : decode cX9_holds 98 = .ok (.getfield 55, 3) := by decide +kernel
theorem dX9_holds_101 : decode cX9_holds 101 = .ok (.iload_n 3, 1) := by decide +kernel
theorem dX9_holds_102 : decode cX9_holds 102 = .ok (.iconst 1, 1) := by decide +kernel
theorem dX9_holds_103 : decode cX9_holds 103 = .ok (.isub, 1) := by decide +kernel
theorem dX9_holds_104 : decode cX9_holds 104 = .ok (.iload 5, 2) := by decide +kernel
theorem dX9_holds_106 : decode cX9_holds 106 = .ok (.aload_n 0, 1) := by decide +kernel
theorem dX9_holds_107 : decode cX9_holds 107 = .ok (.getfield 55, 3) := by decide +kernel
theorem dX9_holds_110 : decode cX9_holds 110 = .ok (.iload_n 3, 1) := by decide +kernel
theorem dX9_holds_111 : decode cX9_holds 111 = .ok (.iconst 1, 1) := by decide +kernel
theorem dX9_holds_112 : decode cX9_holds 112 = .ok (.isub, 1) := by decide +kernel
theorem dX9_holds_113 : decode cX9_holds 113 = .ok (.iaload, 1) := by decide +kernel
theorem dX9_holds_114 : decode cX9_holds 114 = .ok (.aload_n 0, 1) := by decide +kernel
theorem dX9_holds_115 : decode cX9_holds 115 = .ok (.getfield 55, 3) := by decide +kernel
theorem dX9_holds_118 : decode cX9_holds 118 = .ok (.iload_n 3, 1) := by decide +kernel
theorem dX9_holds_119 : decode cX9_holds 119 = .ok (.iaload, 1) := by decide +kernel
theorem dX9_holds_120 : decode cX9_holds 120 = .ok (.invokestatic 313, 3) := by decide +kernel
theorem dX9_holds_123 : decode cX9_holds 123 = .ok (.iastore, 1) := by decide +kernel
theorem dX9_holds_124 : decode cX9_holds 124 = .ok (.goto 19, 3) := by decide +kernel
theorem dX9_holds_127 : decode cX9_holds 127 = .ok (.aload_n 0, 1) := by decide +kernel
theorem dX9_holds_128 : decode cX9_holds 128 = .ok (.getfield 55, 3) := by decide +kernel
theorem dX9_holds_131 : decode cX9_holds 131 = .ok (.iload_n 3, 1) := by decide +kernel
theorem dX9_holds_132 : decode cX9_holds 132 = .ok (.aload_n 0, 1) := by decide +kernel
theorem dX9_holds_133 : decode cX9_holds 133 = .ok (.iload 5, 2) := by decide +kernel
theorem dX9_holds_135 : decode cX9_holds 135 = .ok (.iload_n 2, 1) := by decide +kernel
theorem dX9_holds_136 : decode cX9_holds 136 = .ok (.invokevirtual 317, 3) := by decide +kernel
theorem dX9_holds_139 : decode cX9_holds 139 = .ok (.iastore, 1) := by decide +kernel
theorem dX9_holds_140 : decode cX9_holds 140 = .ok (.iinc 3 1, 3) := by decide +kernel
theorem dX9_holds_143 : decode cX9_holds 143 = .ok (.iinc 4 1, 3) := by decide +kernel
theorem dX9_holds_146 : decode cX9_holds 146 = .ok (.goto (-126), 3) := by decide +kernel
theorem dX9_holds_149 : decode cX9_holds 149 = .ok (.aload_n 0, 1) := by decide +kernel
theorem dX9_holds_150 : decode cX9_holds 150 = .ok (.getfield 55, 3) := by decide +kernel
theorem dX9_holds_153 : decode cX9_holds 153 = .ok (.iconst 0, 1) := by decide +kernel
theorem dX9_holds_154 : decode cX9_holds 154 = .ok (.iaload, 1) := by decide +kernel
theorem dX9_holds_155 : decode cX9_holds 155 = .ok (.iconst 1, 1) := by decide +kernel
theorem dX9_holds_156 : decode cX9_holds 156 = .ok (.if_icmp .ne 7, 3) := by decide +kernel
theorem dX9_holds_159 : decode cX9_holds 159 = .ok (.iconst 1, 1) := by decide +kernel
theorem dX9_holds_160 : decode cX9_holds 160 = .ok (.goto 4, 3) := by decide +kernel
theorem dX9_holds_163 : decode cX9_holds 163 = .ok (.iconst 0, 1) := by decide +kernel
theorem dX9_holds_164 : decode cX9_holds 164 = .ok (.ireturn, 1) := by decide +kernel
theorem dX9_clauseOf_0 : decode cX9_clauseOf 0 = .ok (.iconst 0, 1) := by decide +kernel
theorem dX9_clauseOf_1 : decode cX9_clauseOf 1 = .ok (.istore_n 2, 1) := by decide +kernel
theorem dX9_clauseOf_2 : decode cX9_clauseOf 2 = .ok (.iload_n 2, 1) := by decide +kernel
theorem dX9_clauseOf_3 : decode cX9_clauseOf 3 = .ok (.aload_n 0, 1) := by decide +kernel
theorem dX9_clauseOf_4 : decode cX9_clauseOf 4 = .ok (.getfield 301, 3) := by decide +kernel
theorem dX9_clauseOf_7 : decode cX9_clauseOf 7 = .ok (.if_icmp .ge 20, 3) := by decide +kernel
theorem dX9_clauseOf_10 : decode cX9_clauseOf 10 = .ok (.aload_n 0, 1) := by decide +kernel
theorem dX9_clauseOf_11 : decode cX9_clauseOf 11 = .ok (.iload_n 2, 1) := by decide +kernel
theorem dX9_clauseOf_12 : decode cX9_clauseOf 12 = .ok (.iload_n 1, 1) := by decide +kernel
theorem dX9_clauseOf_13 : decode cX9_clauseOf 13 = .ok (.invokevirtual 320, 3) := by decide +kernel
theorem dX9_clauseOf_16 : decode cX9_clauseOf 16 = .ok (.ifCond .eq 5, 3) := by decide +kernel
theorem dX9_clauseOf_19 : decode cX9_clauseOf 19 = .ok (.iload_n 2, 1) := by decide +kernel
theorem dX9_clauseOf_20 : decode cX9_clauseOf 20 = .ok (.ireturn, 1) := by decide +kernel
theorem dX9_clauseOf_21 : decode cX9_clauseOf 21 = .ok (.iinc 2 1, 3) := by decide +kernel
theorem dX9_clauseOf_24 : decode cX9_clauseOf 24 = .ok (.goto (-22), 3) := by decide +kernel
theorem dX9_clauseOf_27 : decode cX9_clauseOf 27 = .ok (.iconst (-1), 1) := by decide +kernel
theorem dX9_clauseOf_28 : decode cX9_clauseOf 28 = .ok (.ireturn, 1) := by decide +kernel
theorem dX9_isTaken_0 : decode cX9_isTaken 0 = .ok (.aload_n 0, 1) := by decide +kernel
theorem dX9_isTaken_1 : decode cX9_isTaken 1 = .ok (.iload_n 1, 1) := by decide +kernel
theorem dX9_isTaken_2 : decode cX9_isTaken 2 = .ok (.invokevirtual 323, 3) := by decide +kernel
theorem dX9_isTaken_5 : decode cX9_isTaken 5 = .ok (.istore_n 2, 1) := by decide +kernel
theorem dX9_isTaken_6 : decode cX9_isTaken 6 = .ok (.iload_n 2, 1) := by decide +kernel
theorem dX9_isTaken_7 : decode cX9_isTaken 7 = .ok (.ifCond .lt 17, 3) := by decide +kernel
theorem dX9_isTaken_10 : decode cX9_isTaken 10 = .ok (.aload_n 0, 1) := by decide +kernel
theorem dX9_isTaken_11 : decode cX9_isTaken 11 = .ok (.getfield 31, 3) := by decide +kernel
theorem dX9_isTaken_14 : decode cX9_isTaken 14 = .ok (.iload_n 2, 1) := by decide +kernel
theorem dX9_isTaken_15 : decode cX9_isTaken 15 = .ok (.iaload, 1) := by decide +kernel
theorem dX9_isTaken_16 : decode cX9_isTaken 16 = .ok (.iconst 1, 1) := by decide +kernel
theorem dX9_isTaken_17 : decode cX9_isTaken 17 = .ok (.if_icmp .ne 7, 3) := by decide +kernel
theorem dX9_isTaken_20 : decode cX9_isTaken 20 = .ok (.iconst 1, 1) := by decide +kernel
theorem dX9_isTaken_21 : decode cX9_isTaken 21 = .ok (.goto 4, 3) := by decide +kernel
theorem dX9_isTaken_24 : decode cX9_isTaken 24 = .ok (.iconst 0, 1) := by decide +kernel
theorem dX9_isTaken_25 : decode cX9_isTaken 25 = .ok (.ireturn, 1) := by decide +kernel
theorem dX9_takes_0 : decode cX9_takes 0 = .ok (.aload_n 0, 1) := by decide +kernel
theorem dX9_takes_1 : decode cX9_takes 1 = .ok (.iload_n 1, 1) := by decide +kernel
theorem dX9_takes_2 : decode cX9_takes 2 = .ok (.invokevirtual 100, 3) := by decide +kernel
theorem dX9_takes_5 : decode cX9_takes 5 = .ok (.ifCond .ne 7, 3) := by decide +kernel
theorem dX9_takes_8 : decode cX9_takes 8 = .ok (.iconst (-1), 1) := by decide +kernel
theorem dX9_takes_9 : decode cX9_takes 9 = .ok (.goto 16, 3) := by decide +kernel
theorem dX9_takes_12 : decode cX9_takes 12 = .ok (.aload_n 0, 1) := by decide +kernel
theorem dX9_takes_13 : decode cX9_takes 13 = .ok (.iload_n 1, 1) := by decide +kernel
theorem dX9_takes_14 : decode cX9_takes 14 = .ok (.invokevirtual 326, 3) := by decide +kernel
theorem dX9_takes_17 : decode cX9_takes 17 = .ok (.ifCond .eq 7, 3) := by decide +kernel
theorem dX9_takes_20 : decode cX9_takes 20 = .ok (.iconst 1, 1) := by decide +kernel
theorem dX9_takes_21 : decode cX9_takes 21 = .ok (.goto 4, 3) := by decide +kernel
theorem dX9_takes_24 : decode cX9_takes 24 = .ok (.iconst 0, 1) := by decide +kernel
theorem dX9_takes_25 : decode cX9_takes 25 = .ok (.ireturn, 1) := by decide +kernel
theorem dX9_clause_0 : decode cX9_clause 0 = .ok (.aload_n 0, 1) := by decide +kernel
theorem dX9_clause_1 : decode cX9_clause 1 = .ok (.iload_n 1, 1) := by decide +kernel
theorem dX9_clause_2 : decode cX9_clause 2 = .ok (.invokevirtual 100, 3) := by decide +kernel
theorem dX9_clause_5 : decode cX9_clause 5 = .ok (.ifCond .ne 5, 3) := by decide +kernel
theorem dX9_clause_8 : decode cX9_clause 8 = .ok (.iconst (-1), 1) := by decide +kernel
theorem dX9_clause_9 : decode cX9_clause 9 = .ok (.ireturn, 1) := by decide +kernel
theorem dX9_clause_10 : decode cX9_clause 10 = .ok (.aload_n 0, 1) := by decide +kernel
theorem dX9_clause_11 : decode cX9_clause 11 = .ok (.iload_n 1, 1) := by decide +kernel
theorem dX9_clause_12 : decode cX9_clause 12 = .ok (.invokevirtual 323, 3) := by decide +kernel
theorem dX9_clause_15 : decode cX9_clause 15 = .ok (.istore_n 2, 1) := by decide +kernel
theorem dX9_clause_16 : decode cX9_clause 16 = .ok (.iload_n 2, 1) := by decide +kernel
theorem dX9_clause_17 : decode cX9_clause 17 = .ok (.ifCond .ge 8, 3) := by decide +kernel
theorem dX9_clause_20 : decode cX9_clause 20 = .ok (.bipush (-3), 2) := by decide +kernel
theorem dX9_clause_22 : decode cX9_clause 22 = .ok (.goto 4, 3) := by decide +kernel
theorem dX9_clause_25 : decode cX9_clause 25 = .ok (.iload_n 2, 1) := by decide +kernel
theorem dX9_clause_26 : decode cX9_clause 26 = .ok (.ireturn, 1) := by decide +kernel
theorem dX9_truth_0 : decode cX9_truth 0 = .ok (.aload_n 0, 1) := by decide +kernel
theorem dX9_truth_1 : decode cX9_truth 1 = .ok (.iload_n 1, 1) := by decide +kernel
theorem dX9_truth_2 : decode cX9_truth 2 = .ok (.invokevirtual 100, 3) := by decide +kernel
theorem dX9_truth_5 : decode cX9_truth 5 = .ok (.ifCond .eq 14, 3) := by decide +kernel
theorem dX9_truth_8 : decode cX9_truth 8 = .ok (.iload_n 2, 1) := by decide +kernel
theorem dX9_truth_9 : decode cX9_truth 9 = .ok (.iconst (-1), 1) := by decide +kernel
theorem dX9_truth_10 : decode cX9_truth 10 = .ok (.sipush 160, 3) := by decide +kernel
theorem dX9_truth_13 : decode cX9_truth 13 = .ok (.invokestatic 93, 3) := by decide +kernel
theorem dX9_truth_16 : decode cX9_truth 16 = .ok (.ifCond .ne 5, 3) := by decide +kernel
theorem dX9_truth_19 : decode cX9_truth 19 = .ok (.iconst (-1), 1) := by decide +kernel
theorem dX9_truth_20 : decode cX9_truth 20 = .ok (.ireturn, 1) := by decide +kernel
theorem dX9_truth_21 : decode cX9_truth 21 = .ok (.aload_n 0, 1) := by decide +kernel
theorem dX9_truth_22 : decode cX9_truth 22 = .ok (.getfield 7, 3) := by decide +kernel
theorem dX9_truth_25 : decode cX9_truth 25 = .ok (.iconst 4, 1) := by decide +kernel
theorem dX9_truth_26 : decode cX9_truth 26 = .ok (.iload_n 1, 1) := by decide +kernel
theorem dX9_truth_27 : decode cX9_truth 27 = .ok (.imul, 1) := by decide +kernel
theorem dX9_truth_28 : decode cX9_truth 28 = .ok (.iconst 3, 1) := by decide +kernel
theorem dX9_truth_29 : decode cX9_truth 29 = .ok (.iadd, 1) := by decide +kernel
theorem dX9_truth_30 : decode cX9_truth 30 = .ok (.iload_n 2, 1) := by decide +kernel
theorem dX9_truth_31 : decode cX9_truth 31 = .ok (.ifCond .ge 8, 3) := by decide +kernel
theorem dX9_truth_34 : decode cX9_truth 34 = .ok (.bipush (-9), 2) := by decide +kernel
theorem dX9_truth_36 : decode cX9_truth 36 = .ok (.goto 4, 3) := by decide +kernel
theorem dX9_truth_39 : decode cX9_truth 39 = .ok (.iload_n 2, 1) := by decide +kernel
theorem dX9_truth_40 : decode cX9_truth 40 = .ok (.iastore, 1) := by decide +kernel
theorem dX9_truth_41 : decode cX9_truth 41 = .ok (.iconst 1, 1) := by decide +kernel
theorem dX9_truth_42 : decode cX9_truth 42 = .ok (.ireturn, 1) := by decide +kernel
theorem dX9_errs_0 : decode cX9_errs 0 = .ok (.iload_n 1, 1) := by decide +kernel
theorem dX9_errs_1 : decode cX9_errs 1 = .ok (.invokestatic 111, 3) := by decide +kernel
theorem dX9_errs_4 : decode cX9_errs 4 = .ok (.ifCond .eq 12, 3) := by decide +kernel
theorem dX9_errs_7 : decode cX9_errs 7 = .ok (.iload_n 2, 1) := by decide +kernel
theorem dX9_errs_8 : decode cX9_errs 8 = .ok (.iconst 0, 1) := by decide +kernel
theorem dX9_errs_9 : decode cX9_errs 9 = .ok (.iconst 1, 1) := by decide +kernel
theorem dX9_errs_10 : decode cX9_errs 10 = .ok (.invokestatic 93, 3) := by decide +kernel
theorem dX9_errs_13 : decode cX9_errs 13 = .ok (.ifCond .ne 5, 3) := by decide +kernel
theorem dX9_errs_16 : decode cX9_errs 16 = .ok (.iconst (-1), 1) := by decide +kernel
theorem dX9_errs_17 : decode cX9_errs 17 = .ok (.ireturn, 1) := by decide +kernel
theorem dX9_errs_18 : decode cX9_errs 18 = .ok (.iconst 0, 1) := by decide +kernel
theorem dX9_errs_19 : decode cX9_errs 19 = .ok (.istore_n 3, 1) := by decide +kernel
theorem dX9_errs_20 : decode cX9_errs 20 = .ok (.iconst 0, 1) := by decide +kernel
theorem dX9_errs_21 : decode cX9_errs 21 = .ok (.istore 4, 2) := by decide +kernel
theorem dX9_errs_23 : decode cX9_errs 23 = .ok (.iload 4, 2) := by decide +kernel
theorem dX9_errs_25 : decode cX9_errs 25 = .ok (.aload_n 0, 1) := by decide +kernel
theorem dX9_errs_26 : decode cX9_errs 26 = .ok (.getfield 89, 3) := by decide +kernel
theorem dX9_errs_29 : decode cX9_errs 29 = .ok (.if_icmp .ge 81, 3) := by decide +kernel
theorem dX9_errs_32 : decode cX9_errs 32 = .ok (.aload_n 0, 1) := by decide +kernel
theorem dX9_errs_33 : decode cX9_errs 33 = .ok (.getfield 7, 3) := by decide +kernel
theorem dX9_errs_36 : decode cX9_errs 36 = .ok (.iconst 4, 1) := by decide +kernel
theorem dX9_errs_37 : decode cX9_errs 37 = .ok (.iload 4, 2) := by decide +kernel
theorem dX9_errs_39 : decode cX9_errs 39 = .ok (.imul, 1) := by decide +kernel
theorem dX9_errs_40 : decode cX9_errs 40 = .ok (.iconst 3, 1) := by decide +kernel
theorem dX9_errs_41 : decode cX9_errs 41 = .ok (.iadd, 1) := by decide +kernel
theorem dX9_errs_42 : decode cX9_errs 42 = .ok (.iaload, 1) := by decide +kernel
theorem dX9_errs_43 : decode cX9_errs 43 = .ok (.istore 5, 2) := by decide +kernel
theorem dX9_errs_45 : decode cX9_errs 45 = .ok (.iload 5, 2) := by decide +kernel
theorem dX9_errs_47 : decode cX9_errs 47 = .ok (.ifCond .lt 57, 3) := by decide +kernel
theorem dX9_errs_50 : decode cX9_errs 50 = .ok (.aload_n 0, 1) := by decide +kernel
theorem dX9_errs_51 : decode cX9_errs 51 = .ok (.iload 4, 2) := by decide +kernel
theorem dX9_errs_53 : decode cX9_errs 53 = .ok (.invokevirtual 104, 3) := by decide +kernel
theorem dX9_errs_56 : decode cX9_errs 56 = .ok (.iload 5, 2) := by decide +kernel
theorem dX9_errs_58 : decode cX9_errs 58 = .ok (.isub, 1) := by decide +kernel
theorem dX9_errs_59 : decode cX9_errs 59 = .ok (.iload_n 1, 1) := by decide +kernel
theorem dX9_errs_60 : decode cX9_errs 60 = .ok (.if_icmp .lt 7, 3) := by decide +kernel
theorem dX9_errs_63 : decode cX9_errs 63 = .ok (.iconst 1, 1) := by decide +kernel
theorem dX9_errs_64 : decode cX9_errs 64 = .ok (.goto 4, 3) := by decide +kernel
theorem dX9_errs_67 : decode cX9_errs 67 = .ok (.iconst 0, 1) := by decide +kernel
theorem dX9_errs_68 : decode cX9_errs 68 = .ok (.istore 6, 2) := by decide +kernel
theorem dX9_errs_70 : decode cX9_errs 70 = .ok (.iload_n 3, 1) := by decide +kernel
theorem dX9_errs_71 : decode cX9_errs 71 = .ok (.iload 6, 2) := by decide +kernel
theorem dX9_errs_73 : decode cX9_errs 73 = .ok (.iload_n 2, 1) := by decide +kernel
theorem dX9_errs_74 : decode cX9_errs 74 = .ok (.iconst 1, 1) := by decide +kernel
theorem dX9_errs_75 : decode cX9_errs 75 = .ok (.if_icmp .ne 7, 3) := by decide +kernel
theorem dX9_errs_78 : decode cX9_errs 78 = .ok (.iconst 1, 1) := by decide +kernel
theorem dX9_errs_79 : decode cX9_errs 79 = .ok (.goto 4, 3) := by decide +kernel
theorem dX9_errs_82 : decode cX9_errs 82 = .ok (.iconst 0, 1) := by decide +kernel
theorem dX9_errs_83 : decode cX9_errs 83 = .ok (.if_icmp .ne 18, 3) := by decide +kernel
theorem dX9_errs_86 : decode cX9_errs 86 = .ok (.aload_n 0, 1) := by decide +kernel
theorem dX9_errs_87 : decode cX9_errs 87 = .ok (.iload 4, 2) := by decide +kernel
theorem dX9_errs_89 : decode cX9_errs 89 = .ok (.invokevirtual 326, 3) := by decide +kernel
theorem dX9_errs_92 : decode cX9_errs 92 = .ok (.iload 6, 2) := by decide +kernel
theorem dX9_errs_94 : decode cX9_errs 94 = .ok (.if_icmp .eq 7, 3) := by decide +kernel
theorem dX9_errs_97 : decode cX9_errs 97 = .ok (.iconst 1, 1) := by decide +kernel
theorem dX9_errs_98 : decode cX9_errs 98 = .ok (.goto 4, 3) := by decide +kernel
theorem dX9_errs_101 : decode cX9_errs 101 = .ok (.iconst 0, 1) := by decide +kernel
theorem dX9_errs_102 : decode cX9_errs 102 = .ok (.iadd, 1) := by decide +kernel
theorem dX9_errs_103 : decode cX9_errs 103 = .ok (.istore_n 3, 1) := by decide +kernel
theorem dX9_errs_104 : decode cX9_errs 104 = .ok (.iinc 4 1, 3) := by decide +kernel
theorem dX9_errs_107 : decode cX9_errs 107 = .ok (.goto (-84), 3) := by decide +kernel
theorem dX9_errs_110 : decode cX9_errs 110 = .ok (.iload_n 3, 1) := by decide +kernel
theorem dX9_errs_111 : decode cX9_errs 111 = .ok (.ireturn, 1) := by decide +kernel
theorem dX9_draw_0 : decode cX9_draw 0 = .ok (.aload_n 0, 1) := by decide +kernel
theorem dX9_draw_1 : decode cX9_draw 1 = .ok (.iload_n 1, 1) := by decide +kernel
theorem dX9_draw_2 : decode cX9_draw 2 = .ok (.invokevirtual 100, 3) := by decide +kernel
theorem dX9_draw_5 : decode cX9_draw 5 = .ok (.ifCond .eq 33, 3) := by decide +kernel
theorem dX9_draw_8 : decode cX9_draw 8 = .ok (.iload_n 2, 1) := by decide +kernel
theorem dX9_draw_9 : decode cX9_draw 9 = .ok (.invokestatic 111, 3) := by decide +kernel
theorem dX9_draw_12 : decode cX9_draw 12 = .ok (.ifCond .eq 26, 3) := by decide +kernel
theorem dX9_draw_15 : decode cX9_draw 15 = .ok (.iload_n 3, 1) := by decide +kernel
theorem dX9_draw_16 : decode cX9_draw 16 = .ok (.invokestatic 111, 3) := by decide +kernel
theorem dX9_draw_19 : decode cX9_draw 19 = .ok (.ifCond .eq 19, 3) := by decide +kernel
theorem dX9_draw_22 : decode cX9_draw 22 = .ok (.iload_n 2, 1) := by decide +kernel
theorem dX9_draw_23 : decode cX9_draw 23 = .ok (.iload_n 3, 1) := by decide +kernel
theorem dX9_draw_24 : decode cX9_draw 24 = .ok (.if_icmp .gt 14, 3) := by decide +kernel
theorem dX9_draw_27 : decode cX9_draw 27 = .ok (.iload 4, 2) := by decide +kernel
theorem dX9_draw_29 : decode cX9_draw 29 = .ok (.iconst 1, 1) := by decide +kernel
theorem dX9_draw_30 : decode cX9_draw 30 = .ok (.bipush 99, 2) := by decide +kernel
theorem dX9_draw_32 : decode cX9_draw 32 = .ok (.invokestatic 93, 3) := by decide +kernel
theorem dX9_draw_35 : decode cX9_draw 35 = .ok (.ifCond .ne 5, 3) := by decide +kernel
theorem dX9_draw_38 : decode cX9_draw 38 = .ok (.iconst (-1), 1) := by decide +kernel
theorem dX9_draw_39 : decode cX9_draw 39 = .ok (.ireturn, 1) := by decide +kernel
theorem dX9_draw_40 : decode cX9_draw 40 = .ok (.aload_n 0, 1) := by decide +kernel
theorem dX9_draw_41 : decode cX9_draw 41 = .ok (.getfield 329, 3) := by decide +kernel
theorem dX9_draw_44 : decode cX9_draw 44 = .ok (.bipush 20, 2) := by decide +kernel
theorem dX9_draw_46 : decode cX9_draw 46 = .ok (.if_icmp .ne 6, 3) := by decide +kernel
theorem dX9_draw_49 : decode cX9_draw 49 = .ok (.bipush (-2), 2) := by decide +kernel
theorem dX9_draw_51 : decode cX9_draw 51 = .ok (.ireturn, 1) := by decide +kernel
theorem dX9_draw_52 : decode cX9_draw 52 = .ok (.aload_n 0, 1) := by decide +kernel
theorem dX9_draw_53 : decode cX9_draw 53 = .ok (.getfield 22, 3) := by decide +kernel
theorem dX9_draw_56 : decode cX9_draw 56 = .ok (.iconst 4, 1) := by decide +kernel
theorem dX9_draw_57 : decode cX9_draw 57 = .ok (.aload_n 0, 1) := by decide +kernel
theorem dX9_draw_58 : decode cX9_draw 58 = .ok (.getfield 329, 3) := by decide +kernel
theorem dX9_draw_61 : decode cX9_draw 61 = .ok (.imul, 1) := by decide +kernel
theorem dX9_draw_62 : decode cX9_draw 62 = .ok (.iload_n 1, 1) := by decide +kernel
theorem dX9_draw_63 : decode cX9_draw 63 = .ok (.iastore, 1) := by decide +kernel
theorem dX9_draw_64 : decode cX9_draw 64 = .ok (.aload_n 0, 1) := by decide +kernel
theorem dX9_draw_65 : decode cX9_draw 65 = .ok (.getfield 22, 3) := by decide +kernel
theorem dX9_draw_68 : decode cX9_draw 68 = .ok (.iconst 4, 1) := by decide +kernel
theorem dX9_draw_69 : decode cX9_draw 69 = .ok (.aload_n 0, 1) := by decide +kernel
theorem dX9_draw_70 : decode cX9_draw 70 = .ok (.getfield 329, 3) := by decide +kernel
theorem dX9_draw_73 : decode cX9_draw 73 = .ok (.imul, 1) := by decide +kernel
theorem dX9_draw_74 : decode cX9_draw 74 = .ok (.iconst 1, 1) := by decide +kernel
theorem dX9_draw_75 : decode cX9_draw 75 = .ok (.iadd, 1) := by decide +kernel
theorem dX9_draw_76 : decode cX9_draw 76 = .ok (.iload_n 2, 1) := by decide +kernel
theorem dX9_draw_77 : decode cX9_draw 77 = .ok (.iastore, 1) := by decide +kernel
theorem dX9_draw_78 : decode cX9_draw 78 = .ok (.aload_n 0, 1) := by decide +kernel
theorem dX9_draw_79 : decode cX9_draw 79 = .ok (.getfield 22, 3) := by decide +kernel
theorem dX9_draw_82 : decode cX9_draw 82 = .ok (.iconst 4, 1) := by decide +kernel
theorem dX9_draw_83 : decode cX9_draw 83 = .ok (.aload_n 0, 1) := by decide +kernel
theorem dX9_draw_84 : decode cX9_draw 84 = .ok (.getfield 329, 3) := by decide +kernel
theorem dX9_draw_87 : decode cX9_draw 87 = .ok (.imul, 1) := by decide +kernel
theorem dX9_draw_88 : decode cX9_draw 88 = .ok (.iconst 2, 1) := by decide +kernel
theorem dX9_draw_89 : decode cX9_draw 89 = .ok (.iadd, 1) := by decide +kernel
theorem dX9_draw_90 : decode cX9_draw 90 = .ok (.iload_n 3, 1) := by decide +kernel
theorem dX9_draw_91 : decode cX9_draw 91 = .ok (.iastore, 1) := by decide +kernel
theorem dX9_draw_92 : decode cX9_draw 92 = .ok (.aload_n 0, 1) := by decide +kernel
theorem dX9_draw_93 : decode cX9_draw 93 = .ok (.getfield 22, 3) := by decide +kernel
theorem dX9_draw_96 : decode cX9_draw 96 = .ok (.iconst 4, 1) := by decide +kernel
theorem dX9_draw_97 : decode cX9_draw 97 = .ok (.aload_n 0, 1) := by decide +kernel
theorem dX9_draw_98 : decode cX9_draw 98 = .ok (.getfield 329, 3) := by decide +kernel
theorem dX9_draw_101 : decode cX9_draw 101 = .ok (.imul, 1) := by decide +kernel
theorem dX9_draw_102 : decode cX9_draw 102 = .ok (.iconst 3, 1) := by decide +kernel
theorem dX9_draw_103 : decode cX9_draw 103 = .ok (.iadd, 1) := by decide +kernel
theorem dX9_draw_104 : decode cX9_draw 104 = .ok (.iload 4, 2) := by decide +kernel
theorem dX9_draw_106 : decode cX9_draw 106 = .ok (.iastore, 1) := by decide +kernel
theorem dX9_draw_107 : decode cX9_draw 107 = .ok (.aload_n 0, 1) := by decide +kernel
theorem dX9_draw_108 : decode cX9_draw 108 = .ok (.dup, 1) := by decide +kernel
theorem dX9_draw_109 : decode cX9_draw 109 = .ok (.getfield 329, 3) := by decide +kernel
theorem dX9_draw_112 : decode cX9_draw 112 = .ok (.iconst 1, 1) := by decide +kernel
theorem dX9_draw_113 : decode cX9_draw 113 = .ok (.iadd, 1) := by decide +kernel
theorem dX9_draw_114 : decode cX9_draw 114 = .ok (.putfield 329, 3) := by decide +kernel
theorem dX9_draw_117 : decode cX9_draw 117 = .ok (.aload_n 0, 1) := by decide +kernel
theorem dX9_draw_118 : decode cX9_draw 118 = .ok (.getfield 329, 3) := by decide +kernel
theorem dX9_draw_121 : decode cX9_draw 121 = .ok (.iconst 1, 1) := by decide +kernel
theorem dX9_draw_122 : decode cX9_draw 122 = .ok (.isub, 1) := by decide +kernel
theorem dX9_draw_123 : decode cX9_draw 123 = .ok (.ireturn, 1) := by decide +kernel
theorem dX9_behindOf_0 : decode cX9_behindOf 0 = .ok (.aload_n 0, 1) := by decide +kernel
theorem dX9_behindOf_1 : decode cX9_behindOf 1 = .ok (.iload_n 1, 1) := by decide +kernel
theorem dX9_behindOf_2 : decode cX9_behindOf 2 = .ok (.invokevirtual 104, 3) := by decide +kernel
theorem dX9_behindOf_5 : decode cX9_behindOf 5 = .ok (.istore_n 2, 1) := by decide +kernel
theorem dX9_behindOf_6 : decode cX9_behindOf 6 = .ok (.iconst 0, 1) := by decide +kernel
theorem dX9_behindOf_7 : decode cX9_behindOf 7 = .ok (.istore_n 3, 1) := by decide +kernel
theorem dX9_behindOf_8 : decode cX9_behindOf 8 = .ok (.iconst 0, 1) := by decide +kernel
theorem dX9_behindOf_9 : decode cX9_behindOf 9 = .ok (.istore 4, 2) := by decide +kernel
theorem dX9_behindOf_11 : decode cX9_behindOf 11 = .ok (.iload 4, 2) := by decide +kernel
theorem dX9_behindOf_13 : decode cX9_behindOf 13 = .ok (.aload_n 0, 1) := by decide +kernel
theorem dX9_behindOf_14 : decode cX9_behindOf 14 = .ok (.getfield 329, 3) := by decide +kernel
theorem dX9_behindOf_17 : decode cX9_behindOf 17 = .ok (.if_icmp .ge 100, 3) := by decide +kernel
theorem dX9_behindOf_20 : decode cX9_behindOf 20 = .ok (.aload_n 0, 1) := by decide +kernel
theorem dX9_behindOf_21 : decode cX9_behindOf 21 = .ok (.getfield 22, 3) := by decide +kernel
theorem dX9_behindOf_24 : decode cX9_behindOf 24 = .ok (.iconst 4, 1) := by decide +kernel
theorem dX9_behindOf_25 : decode cX9_behindOf 25 = .ok (.iload 4, 2) := by decide +kernel
theorem dX9_behindOf_27 : decode cX9_behindOf 27 = .ok (.imul, 1) := by decide +kernel
theorem dX9_behindOf_28 : decode cX9_behindOf 28 = .ok (.iconst 1, 1) := by decide +kernel
theorem dX9_behindOf_29 : decode cX9_behindOf 29 = .ok (.iadd, 1) := by decide +kernel
theorem dX9_behindOf_30 : decode cX9_behindOf 30 = .ok (.iaload, 1) := by decide +kernel
theorem dX9_behindOf_31 : decode cX9_behindOf 31 = .ok (.iload_n 2, 1) := by decide +kernel
theorem dX9_behindOf_32 : decode cX9_behindOf 32 = .ok (.if_icmp .le 17, 3) := by decide +kernel
theorem dX9_behindOf_35 : decode cX9_behindOf 35 = .ok (.aload_n 0, 1) := by decide +kernel
theorem dX9_behindOf_36 : decode cX9_behindOf 36 = .ok (.getfield 22, 3) := by decide +kernel
theorem dX9_behindOf_39 : decode cX9_behindOf 39 = .ok (.iconst 4, 1) := by decide +kernel
theorem dX9_behindOf_40 : decode cX9_behindOf 40 = .ok (.iload 4, 2) := by decide +kernel
theorem dX9_behindOf_42 : decode cX9_behindOf 42 = .ok (.imul, 1) := by decide +kernel
theorem dX9_behindOf_43 : decode cX9_behindOf 43 = .ok (.iconst 1, 1) := by decide +kernel
theorem dX9_behindOf_44 : decode cX9_behindOf 44 = .ok (.iadd, 1) := by decide +kernel
theorem dX9_behindOf_45 : decode cX9_behindOf 45 = .ok (.iaload, 1) := by decide +kernel
theorem dX9_behindOf_46 : decode cX9_behindOf 46 = .ok (.goto 6, 3) := by decide +kernel
theorem dX9_behindOf_49 : decode cX9_behindOf 49 = .ok (.iload_n 2, 1) := by decide +kernel
theorem dX9_behindOf_50 : decode cX9_behindOf 50 = .ok (.iconst 1, 1) := by decide +kernel
theorem dX9_behindOf_51 : decode cX9_behindOf 51 = .ok (.iadd, 1) := by decide +kernel
theorem dX9_behindOf_52 : decode cX9_behindOf 52 = .ok (.istore 5, 2) := by decide +kernel
theorem dX9_behindOf_54 : decode cX9_behindOf 54 = .ok (.aload_n 0, 1) := by decide +kernel
theorem dX9_behindOf_55 : decode cX9_behindOf 55 = .ok (.getfield 22, 3) := by decide +kernel
theorem dX9_behindOf_58 : decode cX9_behindOf 58 = .ok (.iconst 4, 1) := by decide +kernel
theorem dX9_behindOf_59 : decode cX9_behindOf 59 = .ok (.iload 4, 2) := by decide +kernel
theorem dX9_behindOf_61 : decode cX9_behindOf 61 = .ok (.imul, 1) := by decide +kernel
theorem dX9_behindOf_62 : decode cX9_behindOf 62 = .ok (.iconst 2, 1) := by decide +kernel
theorem dX9_behindOf_63 : decode cX9_behindOf 63 = .ok (.iadd, 1) := by decide +kernel
theorem dX9_behindOf_64 : decode cX9_behindOf 64 = .ok (.iaload, 1) := by decide +kernel
theorem dX9_behindOf_65 : decode cX9_behindOf 65 = .ok (.iload 5, 2) := by decide +kernel
theorem dX9_behindOf_67 : decode cX9_behindOf 67 = .ok (.isub, 1) := by decide +kernel
theorem dX9_behindOf_68 : decode cX9_behindOf 68 = .ok (.iconst 1, 1) := by decide +kernel
theorem dX9_behindOf_69 : decode cX9_behindOf 69 = .ok (.iadd, 1) := by decide +kernel
theorem dX9_behindOf_70 : decode cX9_behindOf 70 = .ok (.istore 6, 2) := by decide +kernel
theorem dX9_behindOf_72 : decode cX9_behindOf 72 = .ok (.iload_n 3, 1) := by decide +kernel
theorem dX9_behindOf_73 : decode cX9_behindOf 73 = .ok (.aload_n 0, 1) := by decide +kernel
theorem dX9_behindOf_74 : decode cX9_behindOf 74 = .ok (.getfield 22, 3) := by decide +kernel
theorem dX9_behindOf_77 : decode cX9_behindOf 77 = .ok (.iconst 4, 1) := by decide +kernel
theorem dX9_behindOf_78 : decode cX9_behindOf 78 = .ok (.iload 4, 2) := by decide +kernel
theorem dX9_behindOf_80 : decode cX9_behindOf 80 = .ok (.imul, 1) := by decide +kernel
theorem dX9_behindOf_81 : decode cX9_behindOf 81 = .ok (.iaload, 1) := by decide +kernel
theorem dX9_behindOf_82 : decode cX9_behindOf 82 = .ok (.iload_n 1, 1) := by decide +kernel
theorem dX9_behindOf_83 : decode cX9_behindOf 83 = .ok (.if_icmp .ne 25, 3) := by decide +kernel
theorem dX9_behindOf_86 : decode cX9_behindOf 86 = .ok (.iload 6, 2) := by decide +kernel
theorem dX9_behindOf_88 : decode cX9_behindOf 88 = .ok (.ifCond .le 20, 3) := by decide +kernel
theorem dX9_behindOf_91 : decode cX9_behindOf 91 = .ok (.iload 6, 2) := by decide +kernel
theorem dX9_behindOf_93 : decode cX9_behindOf 93 = .ok (.aload_n 0, 1) := by decide +kernel
theorem dX9_behindOf_94 : decode cX9_behindOf 94 = .ok (.getfield 22, 3) := by decide +kernel
theorem dX9_behindOf_97 : decode cX9_behindOf 97 = .ok (.iconst 4, 1) := by decide +kernel
theorem dX9_behindOf_98 : decode cX9_behindOf 98 = .ok (.iload 4, 2) := by decide +kernel
theorem dX9_behindOf_100 : decode cX9_behindOf 100 = .ok (.imul, 1) := by decide +kernel
theorem dX9_behindOf_101 : decode cX9_behindOf 101 = .ok (.iconst 3, 1) := by decide +kernel
theorem dX9_behindOf_102 : decode cX9_behindOf 102 = .ok (.iadd, 1) := by decide +kernel
theorem dX9_behindOf_103 : decode cX9_behindOf 103 = .ok (.iaload, 1) := by decide +kernel
theorem dX9_behindOf_104 : decode cX9_behindOf 104 = .ok (.imul, 1) := by decide +kernel
theorem dX9_behindOf_105 : decode cX9_behindOf 105 = .ok (.goto 4, 3) := by decide +kernel
theorem dX9_behindOf_108 : decode cX9_behindOf 108 = .ok (.iconst 0, 1) := by decide +kernel
theorem dX9_behindOf_109 : decode cX9_behindOf 109 = .ok (.iadd, 1) := by decide +kernel
theorem dX9_behindOf_110 : decode cX9_behindOf 110 = .ok (.istore_n 3, 1) := by decide +kernel
theorem dX9_behindOf_111 : decode cX9_behindOf 111 = .ok (.iinc 4 1, 3) := by decide +kernel
theorem dX9_behindOf_114 : decode cX9_behindOf 114 = .ok (.goto (-103), 3) := by decide +kernel
theorem dX9_behindOf_117 : decode cX9_behindOf 117 = .ok (.iload_n 3, 1) := by decide +kernel
theorem dX9_behindOf_118 : decode cX9_behindOf 118 = .ok (.ireturn, 1) := by decide +kernel
theorem dX9_behind_0 : decode cX9_behind 0 = .ok (.aload_n 0, 1) := by decide +kernel
theorem dX9_behind_1 : decode cX9_behind 1 = .ok (.iload_n 1, 1) := by decide +kernel
theorem dX9_behind_2 : decode cX9_behind 2 = .ok (.invokevirtual 100, 3) := by decide +kernel
theorem dX9_behind_5 : decode cX9_behind 5 = .ok (.ifCond .eq 11, 3) := by decide +kernel
theorem dX9_behind_8 : decode cX9_behind 8 = .ok (.aload_n 0, 1) := by decide +kernel
theorem dX9_behind_9 : decode cX9_behind 9 = .ok (.iload_n 1, 1) := by decide +kernel
theorem dX9_behind_10 : decode cX9_behind 10 = .ok (.invokevirtual 332, 3) := by decide +kernel
theorem dX9_behind_13 : decode cX9_behind 13 = .ok (.goto 4, 3) := by decide +kernel
theorem dX9_behind_16 : decode cX9_behind 16 = .ok (.iconst (-1), 1) := by decide +kernel
theorem dX9_behind_17 : decode cX9_behind 17 = .ok (.ireturn, 1) := by decide +kernel
theorem dX9_suspect_0 : decode cX9_suspect 0 = .ok (.iconst 0, 1) := by decide +kernel
theorem dX9_suspect_1 : decode cX9_suspect 1 = .ok (.istore_n 2, 1) := by decide +kernel
theorem dX9_suspect_2 : decode cX9_suspect 2 = .ok (.iload_n 2, 1) := by decide +kernel
theorem dX9_suspect_3 : decode cX9_suspect 3 = .ok (.aload_n 0, 1) := by decide +kernel
theorem dX9_suspect_4 : decode cX9_suspect 4 = .ok (.getfield 89, 3) := by decide +kernel
theorem dX9_suspect_7 : decode cX9_suspect 7 = .ok (.if_icmp .ge 84, 3) := by decide +kernel
theorem dX9_suspect_10 : decode cX9_suspect 10 = .ok (.aload_n 0, 1) := by decide +kernel
theorem dX9_suspect_11 : decode cX9_suspect 11 = .ok (.iload_n 2, 1) := by decide +kernel
theorem dX9_suspect_12 : decode cX9_suspect 12 = .ok (.invokevirtual 332, 3) := by decide +kernel
theorem dX9_suspect_15 : decode cX9_suspect 15 = .ok (.istore_n 3, 1) := by decide +kernel
theorem dX9_suspect_16 : decode cX9_suspect 16 = .ok (.iconst 0, 1) := by decide +kernel
theorem dX9_suspect_17 : decode cX9_suspect 17 = .ok (.istore 4, 2) := by decide +kernel
theorem dX9_suspect_19 : decode cX9_suspect 19 = .ok (.iconst 0, 1) := by decide +kernel
theorem dX9_suspect_20 : decode cX9_suspect 20 = .ok (.istore 5, 2) := by decide +kernel
theorem dX9_suspect_22 : decode cX9_suspect 22 = .ok (.iload 5, 2) := by decide +kernel
theorem dX9_suspect_24 : decode cX9_suspect 24 = .ok (.aload_n 0, 1) := by decide +kernel
theorem dX9_suspect_25 : decode cX9_suspect 25 = .ok (.getfield 89, 3) := by decide +kernel
theorem dX9_suspect_28 : decode cX9_suspect 28 = .ok (.if_icmp .ge 45, 3) := by decide +kernel
theorem dX9_suspect_31 : decode cX9_suspect 31 = .ok (.aload_n 0, 1) := by decide +kernel
theorem dX9_suspect_32 : decode cX9_suspect 32 = .ok (.iload 5, 2) := by decide +kernel
theorem dX9_suspect_34 : decode cX9_suspect 34 = .ok (.invokevirtual 332, 3) := by decide +kernel
theorem dX9_suspect_37 : decode cX9_suspect 37 = .ok (.istore 6, 2) := by decide +kernel
theorem dX9_suspect_39 : decode cX9_suspect 39 = .ok (.iload 4, 2) := by decide +kernel
theorem dX9_suspect_41 : decode cX9_suspect 41 = .ok (.iload 6, 2) := by decide +kernel
theorem dX9_suspect_43 : decode cX9_suspect 43 = .ok (.iload_n 3, 1) := by decide +kernel
theorem dX9_suspect_44 : decode cX9_suspect 44 = .ok (.if_icmp .gt 15, 3) := by decide +kernel
theorem dX9_suspect_47 : decode cX9_suspect 47 = .ok (.iload 6, 2) := by decide +kernel
theorem dX9_suspect_49 : decode cX9_suspect 49 = .ok (.iload_n 3, 1) := by decide +kernel
theorem dX9_suspect_50 : decode cX9_suspect 50 = .ok (.if_icmp .ne 13, 3) := by decide +kernel
theorem dX9_suspect_53 : decode cX9_suspect 53 = .ok (.iload 5, 2) := by decide +kernel
theorem dX9_suspect_55 : decode cX9_suspect 55 = .ok (.iload_n 2, 1) := by decide +kernel
theorem dX9_suspect_56 : decode cX9_suspect 56 = .ok (.if_icmp .ge 7, 3) := by decide +kernel
theorem dX9_suspect_59 : decode cX9_suspect 59 = .ok (.iconst 1, 1) := by decide +kernel
theorem dX9_suspect_60 : decode cX9_suspect 60 = .ok (.goto 4, 3) := by decide +kernel
theorem dX9_suspect_63 : decode cX9_suspect 63 = .ok (.iconst 0, 1) := by decide +kernel
theorem dX9_suspect_64 : decode cX9_suspect 64 = .ok (.iadd, 1) := by decide +kernel
theorem dX9_suspect_65 : decode cX9_suspect 65 = .ok (.istore 4, 2) := by decide +kernel
theorem dX9_suspect_67 : decode cX9_suspect 67 = .ok (.iinc 5 1, 3) := by decide +kernel
theorem dX9_suspect_70 : decode cX9_suspect 70 = .ok (.goto (-48), 3) := by decide +kernel
theorem dX9_suspect_73 : decode cX9_suspect 73 = .ok (.iload_n 3, 1) := by decide +kernel
theorem dX9_suspect_74 : decode cX9_suspect 74 = .ok (.ifCond .le 11, 3) := by decide +kernel
theorem dX9_suspect_77 : decode cX9_suspect 77 = .ok (.iload 4, 2) := by decide +kernel
theorem dX9_suspect_79 : decode cX9_suspect 79 = .ok (.iload_n 1, 1) := by decide +kernel
theorem dX9_suspect_80 : decode cX9_suspect 80 = .ok (.if_icmp .ne 5, 3) := by decide +kernel
theorem dX9_suspect_83 : decode cX9_suspect 83 = .ok (.iload_n 2, 1) := by decide +kernel
theorem dX9_suspect_84 : decode cX9_suspect 84 = .ok (.ireturn, 1) := by decide +kernel
theorem dX9_suspect_85 : decode cX9_suspect 85 = .ok (.iinc 2 1, 3) := by decide +kernel
theorem dX9_suspect_88 : decode cX9_suspect 88 = .ok (.goto (-86), 3) := by decide +kernel
theorem dX9_suspect_91 : decode cX9_suspect 91 = .ok (.bipush (-3), 2) := by decide +kernel
theorem dX9_suspect_93 : decode cX9_suspect 93 = .ok (.ireturn, 1) := by decide +kernel
theorem dX9_heap_0 : decode cX9_heap 0 = .ok (.iload_n 1, 1) := by decide +kernel
theorem dX9_heap_1 : decode cX9_heap 1 = .ok (.iconst 0, 1) := by decide +kernel
theorem dX9_heap_2 : decode cX9_heap 2 = .ok (.iconst 3, 1) := by decide +kernel
theorem dX9_heap_3 : decode cX9_heap 3 = .ok (.invokestatic 93, 3) := by decide +kernel
theorem dX9_heap_6 : decode cX9_heap 6 = .ok (.ifCond .ne 5, 3) := by decide +kernel
theorem dX9_heap_9 : decode cX9_heap 9 = .ok (.iconst (-1), 1) := by decide +kernel
theorem dX9_heap_10 : decode cX9_heap 10 = .ok (.ireturn, 1) := by decide +kernel
theorem dX9_heap_11 : decode cX9_heap 11 = .ok (.iconst 0, 1) := by decide +kernel
theorem dX9_heap_12 : decode cX9_heap 12 = .ok (.istore_n 2, 1) := by decide +kernel
theorem dX9_heap_13 : decode cX9_heap 13 = .ok (.iconst 0, 1) := by decide +kernel
theorem dX9_heap_14 : decode cX9_heap 14 = .ok (.istore_n 3, 1) := by decide +kernel
theorem dX9_heap_15 : decode cX9_heap 15 = .ok (.iconst 0, 1) := by decide +kernel
theorem dX9_heap_16 : decode cX9_heap 16 = .ok (.istore 4, 2) := by decide +kernel
theorem dX9_heap_18 : decode cX9_heap 18 = .ok (.iconst 0, 1) := by decide +kernel
theorem dX9_heap_19 : decode cX9_heap 19 = .ok (.istore 5, 2) := by decide +kernel
theorem dX9_heap_21 : decode cX9_heap 21 = .ok (.iload 5, 2) := by decide +kernel
theorem dX9_heap_23 : decode cX9_heap 23 = .ok (.aload_n 0, 1) := by decide +kernel
theorem dX9_heap_24 : decode cX9_heap 24 = .ok (.getfield 97, 3) := by decide +kernel
theorem dX9_heap_27 : decode cX9_heap 27 = .ok (.if_icmp .ge 94, 3) := by decide +kernel
theorem dX9_heap_30 : decode cX9_heap 30 = .ok (.aload_n 0, 1) := by decide +kernel
theorem dX9_heap_31 : decode cX9_heap 31 = .ok (.getfield 13, 3) := by decide +kernel
theorem dX9_heap_34 : decode cX9_heap 34 = .ok (.bipush 6, 2) := by decide +kernel
theorem dX9_heap_36 : decode cX9_heap 36 = .ok (.iload 5, 2) := by decide +kernel
theorem dX9_heap_38 : decode cX9_heap 38 = .ok (.imul, 1) := by decide +kernel
theorem dX9_heap_39 : decode cX9_heap 39 = .ok (.iconst 1, 1) := by decide +kernel
theorem dX9_heap_40 : decode cX9_heap 40 = .ok (.iadd, 1) := by decide +kernel
theorem dX9_heap_41 : decode cX9_heap 41 = .ok (.iaload, 1) := by decide +kernel
theorem dX9_heap_42 : decode cX9_heap 42 = .ok (.iconst 3, 1) := by decide +kernel
theorem dX9_heap_43 : decode cX9_heap 43 = .ok (.if_icmp .ne 21, 3) := by decide +kernel
theorem dX9_heap_46 : decode cX9_heap 46 = .ok (.aload_n 0, 1) := by decide +kernel
theorem dX9_heap_47 : decode cX9_heap 47 = .ok (.getfield 13, 3) := by decide +kernel
theorem dX9_heap_50 : decode cX9_heap 50 = .ok (.bipush 6, 2) := by decide +kernel
theorem dX9_heap_52 : decode cX9_heap 52 = .ok (.iload 5, 2) := by decide +kernel
theorem dX9_heap_54 : decode cX9_heap 54 = .ok (.imul, 1) := by decide +kernel
theorem dX9_heap_55 : decode cX9_heap 55 = .ok (.iconst 3, 1) := by decide +kernel
theorem dX9_heap_56 : decode cX9_heap 56 = .ok (.iadd, 1) := by decide +kernel
theorem dX9_heap_57 : decode cX9_heap 57 = .ok (.iaload, 1) := by decide +kernel
theorem dX9_heap_58 : decode cX9_heap 58 = .ok (.bipush 10, 2) := by decide +kernel
theorem dX9_heap_60 : decode cX9_heap 60 = .ok (.irem, 1) := by decide +kernel
theorem dX9_heap_61 : decode cX9_heap 61 = .ok (.goto 4, 3) := by decide +kernel
theorem dX9_heap_64 : decode cX9_heap 64 = .ok (.iconst (-1), 1) := by decide +kernel
theorem dX9_heap_65 : decode cX9_heap 65 = .ok (.istore 6, 2) := by decide +kernel
theorem dX9_heap_67 : decode cX9_heap 67 = .ok (.iload_n 2, 1) := by decide +kernel
theorem dX9_heap_68 : decode cX9_heap 68 = .ok (.iload 6, 2) := by decide +kernel
theorem dX9_heap_70 : decode cX9_heap 70 = .ok (.ifCond .ne 7, 3) := by decide +kernel
theorem dX9_heap_73 : decode cX9_heap 73 = .ok (.iconst 1, 1) := by decide +kernel
theorem dX9_heap_74 : decode cX9_heap 74 = .ok (.goto 4, 3) := by decide +kernel
theorem dX9_heap_77 : decode cX9_heap 77 = .ok (.iconst 0, 1) := by decide +kernel
theorem dX9_heap_78 : decode cX9_heap 78 = .ok (.iadd, 1) := by decide +kernel
theorem dX9_heap_79 : decode cX9_heap 79 = .ok (.istore_n 2, 1) := by decide +kernel
theorem dX9_heap_80 : decode cX9_heap 80 = .ok (.iload_n 3, 1) := by decide +kernel
theorem dX9_heap_81 : decode cX9_heap 81 = .ok (.iload 6, 2) := by decide +kernel
theorem dX9_heap_83 : decode cX9_heap 83 = .ok (.iconst 5, 1) := by decide +kernel
theorem dX9_heap_84 : decode cX9_heap 84 = .ok (.if_icmp .ne 7, 3) := by decide +kernel
theorem dX9_heap_87 : decode cX9_heap 87 = .ok (.iconst 1, 1) := by decide +kernel
theorem dX9_heap_88 : decode cX9_heap 88 = .ok (.goto 4, 3) := by decide +kernel
theorem dX9_heap_91 : decode cX9_heap 91 = .ok (.iconst 0, 1) := by decide +kernel
theorem dX9_heap_92 : decode cX9_heap 92 = .ok (.iadd, 1) := by decide +kernel
theorem dX9_heap_93 : decode cX9_heap 93 = .ok (.istore_n 3, 1) := by decide +kernel
theorem dX9_heap_94 : decode cX9_heap 94 = .ok (.iload 4, 2) := by decide +kernel
theorem dX9_heap_96 : decode cX9_heap 96 = .ok (.iload 6, 2) := by decide +kernel
theorem dX9_heap_98 : decode cX9_heap 98 = .ok (.ifCond .le 13, 3) := by decide +kernel
theorem dX9_heap_101 : decode cX9_heap 101 = .ok (.iload 6, 2) := by decide +kernel
theorem dX9_heap_103 : decode cX9_heap 103 = .ok (.iconst 5, 1) := by decide +kernel
theorem dX9_heap_104 : decode cX9_heap 104 = .ok (.if_icmp .eq 7, 3) := by decide +kernel
theorem dX9_heap_107 : decode cX9_heap 107 = .ok (.iconst 1, 1) := by decide +kernel
theorem dX9_heap_108 : decode cX9_heap 108 = .ok (.goto 4, 3) := by decide +kernel
theorem dX9_heap_111 : decode cX9_heap 111 = .ok (.iconst 0, 1) := by decide +kernel
theorem dX9_heap_112 : decode cX9_heap 112 = .ok (.iadd, 1) := by decide +kernel
theorem dX9_heap_113 : decode cX9_heap 113 = .ok (.istore 4, 2) := by decide +kernel
theorem dX9_heap_115 : decode cX9_heap 115 = .ok (.iinc 5 1, 3) := by decide +kernel
theorem dX9_heap_118 : decode cX9_heap 118 = .ok (.goto (-97), 3) := by decide +kernel
theorem dX9_heap_121 : decode cX9_heap 121 = .ok (.iload_n 2, 1) := by decide +kernel
theorem dX9_heap_122 : decode cX9_heap 122 = .ok (.iload_n 3, 1) := by decide +kernel
theorem dX9_heap_123 : decode cX9_heap 123 = .ok (.iadd, 1) := by decide +kernel
theorem dX9_heap_124 : decode cX9_heap 124 = .ok (.iload 4, 2) := by decide +kernel
theorem dX9_heap_126 : decode cX9_heap 126 = .ok (.iadd, 1) := by decide +kernel
theorem dX9_heap_127 : decode cX9_heap 127 = .ok (.istore 5, 2) := by decide +kernel
theorem dX9_heap_129 : decode cX9_heap 129 = .ok (.iload_n 1, 1) := by decide +kernel
theorem dX9_heap_130 : decode cX9_heap 130 = .ok (.ifCond .ne 7, 3) := by decide +kernel
theorem dX9_heap_133 : decode cX9_heap 133 = .ok (.iload_n 2, 1) := by decide +kernel
theorem dX9_heap_134 : decode cX9_heap 134 = .ok (.goto 41, 3) := by decide +kernel
theorem dX9_heap_137 : decode cX9_heap 137 = .ok (.iload_n 1, 1) := by decide +kernel
theorem dX9_heap_138 : decode cX9_heap 138 = .ok (.iconst 1, 1) := by decide +kernel
theorem dX9_heap_139 : decode cX9_heap 139 = .ok (.if_icmp .ne 7, 3) := by decide +kernel
theorem dX9_heap_142 : decode cX9_heap 142 = .ok (.iload_n 3, 1) := by decide +kernel
theorem dX9_heap_143 : decode cX9_heap 143 = .ok (.goto 32, 3) := by decide +kernel
theorem dX9_heap_146 : decode cX9_heap 146 = .ok (.iload_n 1, 1) := by decide +kernel
theorem dX9_heap_147 : decode cX9_heap 147 = .ok (.iconst 2, 1) := by decide +kernel
theorem dX9_heap_148 : decode cX9_heap 148 = .ok (.if_icmp .ne 8, 3) := by decide +kernel
theorem dX9_heap_151 : decode cX9_heap 151 = .ok (.iload 4, 2) := by decide +kernel
theorem dX9_heap_153 : decode cX9_heap 153 = .ok (.goto 22, 3) := by decide +kernel
theorem dX9_heap_156 : decode cX9_heap 156 = .ok (.iload 5, 2) := by decide +kernel
theorem dX9_heap_158 : decode cX9_heap 158 = .ok (.ifCond .ne 7, 3) := by decide +kernel
theorem dX9_heap_161 : decode cX9_heap 161 = .ok (.iconst 0, 1) := by decide +kernel
theorem dX9_heap_162 : decode cX9_heap 162 = .ok (.goto 13, 3) := by decide +kernel
theorem dX9_heap_165 : decode cX9_heap 165 = .ok (.sipush 500, 3) := by decide +kernel
theorem dX9_heap_168 : decode cX9_heap 168 = .ok (.iload_n 2, 1) := by decide +kernel
theorem dX9_heap_169 : decode cX9_heap 169 = .ok (.iload_n 3, 1) := by decide +kernel
theorem dX9_heap_170 : decode cX9_heap 170 = .ok (.iadd, 1) := by decide +kernel
theorem dX9_heap_171 : decode cX9_heap 171 = .ok (.imul, 1) := by decide +kernel
theorem dX9_heap_172 : decode cX9_heap 172 = .ok (.iload 5, 2) := by decide +kernel
theorem dX9_heap_174 : decode cX9_heap 174 = .ok (.idiv, 1) := by decide +kernel
theorem dX9_heap_175 : decode cX9_heap 175 = .ok (.ireturn, 1) := by decide +kernel
theorem dX9_valley_0 : decode cX9_valley 0 = .ok (.iload_n 1, 1) := by decide +kernel
theorem dX9_valley_1 : decode cX9_valley 1 = .ok (.iconst 0, 1) := by decide +kernel
theorem dX9_valley_2 : decode cX9_valley 2 = .ok (.iconst 5, 1) := by decide +kernel
theorem dX9_valley_3 : decode cX9_valley 3 = .ok (.invokestatic 93, 3) := by decide +kernel
theorem dX9_valley_6 : decode cX9_valley 6 = .ok (.ifCond .eq 19, 3) := by decide +kernel
theorem dX9_valley_9 : decode cX9_valley 9 = .ok (.iload_n 2, 1) := by decide +kernel
theorem dX9_valley_10 : decode cX9_valley 10 = .ok (.invokestatic 111, 3) := by decide +kernel
theorem dX9_valley_13 : decode cX9_valley 13 = .ok (.ifCond .eq 12, 3) := by decide +kernel
theorem dX9_valley_16 : decode cX9_valley 16 = .ok (.iload_n 3, 1) := by decide +kernel
theorem dX9_valley_17 : decode cX9_valley 17 = .ok (.iconst 0, 1) := by decide +kernel
theorem dX9_valley_18 : decode cX9_valley 18 = .ok (.iconst 2, 1) := by decide +kernel
theorem dX9_valley_19 : decode cX9_valley 19 = .ok (.invokestatic 93, 3) := by decide +kernel
theorem dX9_valley_22 : decode cX9_valley 22 = .ok (.ifCond .ne 5, 3) := by decide +kernel
theorem dX9_valley_25 : decode cX9_valley 25 = .ok (.iconst (-1), 1) := by decide +kernel
theorem dX9_valley_26 : decode cX9_valley 26 = .ok (.ireturn, 1) := by decide +kernel
theorem dX9_valley_27 : decode cX9_valley 27 = .ok (.iconst 0, 1) := by decide +kernel
theorem dX9_valley_28 : decode cX9_valley 28 = .ok (.istore 4, 2) := by decide +kernel
theorem dX9_valley_30 : decode cX9_valley 30 = .ok (.iconst 0, 1) := by decide +kernel
theorem dX9_valley_31 : decode cX9_valley 31 = .ok (.istore 5, 2) := by decide +kernel
theorem dX9_valley_33 : decode cX9_valley 33 = .ok (.iload 5, 2) := by decide +kernel
theorem dX9_valley_35 : decode cX9_valley 35 = .ok (.aload_n 0, 1) := by decide +kernel
theorem dX9_valley_36 : decode cX9_valley 36 = .ok (.getfield 89, 3) := by decide +kernel
theorem dX9_valley_39 : decode cX9_valley 39 = .ok (.if_icmp .ge 134, 3) := by decide +kernel
theorem dX9_valley_42 : decode cX9_valley 42 = .ok (.aload_n 0, 1) := by decide +kernel
theorem dX9_valley_43 : decode cX9_valley 43 = .ok (.getfield 7, 3) := by decide +kernel
theorem dX9_valley_46 : decode cX9_valley 46 = .ok (.iconst 4, 1) := by decide +kernel
theorem dX9_valley_47 : decode cX9_valley 47 = .ok (.iload 5, 2) := by decide +kernel
theorem dX9_valley_49 : decode cX9_valley 49 = .ok (.imul, 1) := by decide +kernel
theorem dX9_valley_50 : decode cX9_valley 50 = .ok (.iaload, 1) := by decide +kernel
theorem dX9_valley_51 : decode cX9_valley 51 = .ok (.iload_n 1, 1) := by decide +kernel
theorem dX9_valley_52 : decode cX9_valley 52 = .ok (.if_icmp .ne 115, 3) := by decide +kernel
theorem dX9_valley_55 : decode cX9_valley 55 = .ok (.aload_n 0, 1) := by decide +kernel
theorem dX9_valley_56 : decode cX9_valley 56 = .ok (.iload 5, 2) := by decide +kernel
theorem dX9_valley_58 : decode cX9_valley 58 = .ok (.invokevirtual 149, 3) := by decide +kernel
theorem dX9_valley_61 : decode cX9_valley 61 = .ok (.lstore 6, 2) := by decide +kernel
theorem dX9_valley_63 : decode cX9_valley 63 = .ok (.aload_n 0, 1) := by decide +kernel
theorem dX9_valley_64 : decode cX9_valley 64 = .ok (.iload 5, 2) := by decide +kernel
theorem dX9_valley_66 : decode cX9_valley 66 = .ok (.iload_n 2, 1) := by decide +kernel
theorem dX9_valley_67 : decode cX9_valley 67 = .ok (.invokevirtual 158, 3) := by decide +kernel
theorem dX9_valley_70 : decode cX9_valley 70 = .ok (.lstore 8, 2) := by decide +kernel
theorem dX9_valley_72 : decode cX9_valley 72 = .ok (.aload_n 0, 1) := by decide +kernel
theorem dX9_valley_73 : decode cX9_valley 73 = .ok (.iload 5, 2) := by decide +kernel
theorem dX9_valley_75 : decode cX9_valley 75 = .ok (.invokevirtual 153, 3) := by decide +kernel
theorem dX9_valley_78 : decode cX9_valley 78 = .ok (.istore 10, 2) := by decide +kernel
theorem dX9_valley_80 : decode cX9_valley 80 = .ok (.iload_n 3, 1) := by decide +kernel
theorem dX9_valley_81 : decode cX9_valley 81 = .ok (.ifCond .ne 26, 3) := by decide +kernel
theorem dX9_valley_84 : decode cX9_valley 84 = .ok (.lload 6, 2) := by decide +kernel
theorem dX9_valley_86 : decode cX9_valley 86 = .ok (.lconst 0, 1) := by decide +kernel
theorem dX9_valley_87 : decode cX9_valley 87 = .ok (.lcmp, 1) := by decide +kernel
theorem dX9_valley_88 : decode cX9_valley 88 = .ok (.ifCond .le 15, 3) := by decide +kernel
theorem dX9_valley_91 : decode cX9_valley 91 = .ok (.lload 8, 2) := by decide +kernel
theorem dX9_valley_93 : decode cX9_valley 93 = .ok (.lload 6, 2) := by decide +kernel
theorem dX9_valley_95 : decode cX9_valley 95 = .ok (.lcmp, 1) := by decide +kernel
theorem dX9_valley_96 : decode cX9_valley 96 = .ok (.ifCond .ne 7, 3) := by decide +kernel
theorem dX9_valley_99 : decode cX9_valley 99 = .ok (.iconst 1, 1) := by decide +kernel
theorem dX9_valley_100 : decode cX9_valley 100 = .ok (.goto 50, 3) := by decide +kernel
theorem dX9_valley_103 : decode cX9_valley 103 = .ok (.iconst 0, 1) := by decide +kernel
theorem dX9_valley_104 : decode cX9_valley 104 = .ok (.goto 46, 3) := by decide +kernel
theorem dX9_valley_107 : decode cX9_valley 107 = .ok (.iload_n 3, 1) := by decide +kernel
theorem dX9_valley_108 : decode cX9_valley 108 = .ok (.iconst 1, 1) := by decide +kernel
theorem dX9_valley_109 : decode cX9_valley 109 = .ok (.if_icmp .ne 29, 3) := by decide +kernel
theorem dX9_valley_112 : decode cX9_valley 112 = .ok (.iload 10, 2) := by decide +kernel
theorem dX9_valley_114 : decode cX9_valley 114 = .ok (.ifCond .lt 20, 3) := by decide +kernel
theorem dX9_valley_117 : decode cX9_valley 117 = .ok (.aload_n 0, 1) := by decide +kernel
theorem dX9_valley_118 : decode cX9_valley 118 = .ok (.iload 5, 2) := by decide +kernel
theorem dX9_valley_120 : decode cX9_valley 120 = .ok (.invokevirtual 104, 3) := by decide +kernel
theorem dX9_valley_123 : decode cX9_valley 123 = .ok (.iload 10, 2) := by decide +kernel
theorem dX9_valley_125 : decode cX9_valley 125 = .ok (.isub, 1) := by decide +kernel
theorem dX9_valley_126 : decode cX9_valley 126 = .ok (.iload_n 2, 1) := by decide +kernel
theorem dX9_valley_127 : decode cX9_valley 127 = .ok (.if_icmp .lt 7, 3) := by decide +kernel
theorem dX9_valley_130 : decode cX9_valley 130 = .ok (.iconst 1, 1) := by decide +kernel
theorem dX9_valley_131 : decode cX9_valley 131 = .ok (.goto 19, 3) := by decide +kernel
theorem dX9_valley_134 : decode cX9_valley 134 = .ok (.iconst 0, 1) := by decide +kernel
theorem dX9_valley_135 : decode cX9_valley 135 = .ok (.goto 15, 3) := by decide +kernel
theorem dX9_valley_138 : decode cX9_valley 138 = .ok (.lload 8, 2) := by decide +kernel
theorem dX9_valley_140 : decode cX9_valley 140 = .ok (.lconst 0, 1) := by decide +kernel
theorem dX9_valley_141 : decode cX9_valley 141 = .ok (.lcmp, 1) := by decide +kernel
theorem dX9_valley_142 : decode cX9_valley 142 = .ok (.ifCond .le 7, 3) := by decide +kernel
theorem dX9_valley_145 : decode cX9_valley 145 = .ok (.iconst 1, 1) := by decide +kernel
theorem dX9_valley_146 : decode cX9_valley 146 = .ok (.goto 4, 3) := by decide +kernel
theorem dX9_valley_149 : decode cX9_valley 149 = .ok (.iconst 0, 1) := by decide +kernel
theorem dX9_valley_150 : decode cX9_valley 150 = .ok (.istore 11, 2) := by decide +kernel
theorem dX9_valley_152 : decode cX9_valley 152 = .ok (.iload 4, 2) := by decide +kernel
theorem dX9_valley_154 : decode cX9_valley 154 = .ok (.iload 11, 2) := by decide +kernel
theorem dX9_valley_156 : decode cX9_valley 156 = .ok (.ifCond .eq 7, 3) := by decide +kernel
theorem dX9_valley_159 : decode cX9_valley 159 = .ok (.iconst 1, 1) := by decide +kernel
theorem dX9_valley_160 : decode cX9_valley 160 = .ok (.goto 4, 3) := by decide +kernel
theorem dX9_valley_163 : decode cX9_valley 163 = .ok (.iconst 0, 1) := by decide +kernel
theorem dX9_valley_164 : decode cX9_valley 164 = .ok (.iadd, 1) := by decide +kernel
theorem dX9_valley_165 : decode cX9_valley 165 = .ok (.istore 4, 2) := by decide +kernel
theorem dX9_valley_167 : decode cX9_valley 167 = .ok (.iinc 5 1, 3) := by decide +kernel
theorem dX9_valley_170 : decode cX9_valley 170 = .ok (.goto (-137), 3) := by decide +kernel
theorem dX9_valley_173 : decode cX9_valley 173 = .ok (.iload 4, 2) := by decide +kernel
theorem dX9_valley_175 : decode cX9_valley 175 = .ok (.ireturn, 1) := by decide +kernel
theorem dX9_question_0 : decode cX9_question 0 = .ok (.aload_n 0, 1) := by decide +kernel
theorem dX9_question_1 : decode cX9_question 1 = .ok (.iload_n 1, 1) := by decide +kernel
theorem dX9_question_2 : decode cX9_question 2 = .ok (.invokevirtual 100, 3) := by decide +kernel
theorem dX9_question_5 : decode cX9_question 5 = .ok (.ifCond .eq 20, 3) := by decide +kernel
theorem dX9_question_8 : decode cX9_question 8 = .ok (.iload_n 2, 1) := by decide +kernel
theorem dX9_question_9 : decode cX9_question 9 = .ok (.invokestatic 111, 3) := by decide +kernel
theorem dX9_question_12 : decode cX9_question 12 = .ok (.ifCond .eq 13, 3) := by decide +kernel
theorem dX9_question_15 : decode cX9_question 15 = .ok (.iload_n 3, 1) := by decide +kernel
theorem dX9_question_16 : decode cX9_question 16 = .ok (.iconst 1, 1) := by decide +kernel
theorem dX9_question_17 : decode cX9_question 17 = .ok (.bipush 99, 2) := by decide +kernel
theorem dX9_question_19 : decode cX9_question 19 = .ok (.invokestatic 93, 3) := by decide +kernel
theorem dX9_question_22 : decode cX9_question 22 = .ok (.ifCond .ne 5, 3) := by decide +kernel
theorem dX9_question_25 : decode cX9_question 25 = .ok (.iconst (-1), 1) := by decide +kernel
theorem dX9_question_26 : decode cX9_question 26 = .ok (.ireturn, 1) := by decide +kernel
theorem dX9_question_27 : decode cX9_question 27 = .ok (.aload_n 0, 1) := by decide +kernel
theorem dX9_question_28 : decode cX9_question 28 = .ok (.getfield 133, 3) := by decide +kernel
theorem dX9_question_31 : decode cX9_question 31 = .ok (.bipush 8, 2) := by decide +kernel
theorem dX9_question_33 : decode cX9_question 33 = .ok (.if_icmp .ne 6, 3) := by decide +kernel
theorem dX9_question_36 : decode cX9_question 36 = .ok (.bipush (-2), 2) := by decide +kernel
theorem dX9_question_38 : decode cX9_question 38 = .ok (.ireturn, 1) := by decide +kernel
theorem dX9_question_39 : decode cX9_question 39 = .ok (.aload_n 0, 1) := by decide +kernel
theorem dX9_question_40 : decode cX9_question 40 = .ok (.getfield 25, 3) := by decide +kernel
theorem dX9_question_43 : decode cX9_question 43 = .ok (.iconst 4, 1) := by decide +kernel
theorem dX9_question_44 : decode cX9_question 44 = .ok (.aload_n 0, 1) := by decide +kernel
theorem dX9_question_45 : decode cX9_question 45 = .ok (.getfield 133, 3) := by decide +kernel
theorem dX9_question_48 : decode cX9_question 48 = .ok (.imul, 1) := by decide +kernel
theorem dX9_question_49 : decode cX9_question 49 = .ok (.iload_n 1, 1) := by decide +kernel
theorem dX9_question_50 : decode cX9_question 50 = .ok (.iastore, 1) := by decide +kernel
theorem dX9_question_51 : decode cX9_question 51 = .ok (.aload_n 0, 1) := by decide +kernel
theorem dX9_question_52 : decode cX9_question 52 = .ok (.getfield 25, 3) := by decide +kernel
theorem dX9_question_55 : decode cX9_question 55 = .ok (.iconst 4, 1) := by decide +kernel
theorem dX9_question_56 : decode cX9_question 56 = .ok (.aload_n 0, 1) := by decide +kernel
theorem dX9_question_57 : decode cX9_question 57 = .ok (.getfield 133, 3) := by decide +kernel
theorem dX9_question_60 : decode cX9_question 60 = .ok (.imul, 1) := by decide +kernel
theorem dX9_question_61 : decode cX9_question 61 = .ok (.iconst 1, 1) := by decide +kernel
theorem dX9_question_62 : decode cX9_question 62 = .ok (.iadd, 1) := by decide +kernel
theorem dX9_question_63 : decode cX9_question 63 = .ok (.iload_n 2, 1) := by decide +kernel
theorem dX9_question_64 : decode cX9_question 64 = .ok (.iastore, 1) := by decide +kernel
theorem dX9_question_65 : decode cX9_question 65 = .ok (.aload_n 0, 1) := by decide +kernel
theorem dX9_question_66 : decode cX9_question 66 = .ok (.getfield 25, 3) := by decide +kernel
theorem dX9_question_69 : decode cX9_question 69 = .ok (.iconst 4, 1) := by decide +kernel
theorem dX9_question_70 : decode cX9_question 70 = .ok (.aload_n 0, 1) := by decide +kernel
theorem dX9_question_71 : decode cX9_question 71 = .ok (.getfield 133, 3) := by decide +kernel
theorem dX9_question_74 : decode cX9_question 74 = .ok (.imul, 1) := by decide +kernel
theorem dX9_question_75 : decode cX9_question 75 = .ok (.iconst 2, 1) := by decide +kernel
theorem dX9_question_76 : decode cX9_question 76 = .ok (.iadd, 1) := by decide +kernel
theorem dX9_question_77 : decode cX9_question 77 = .ok (.iload_n 3, 1) := by decide +kernel
theorem dX9_question_78 : decode cX9_question 78 = .ok (.iastore, 1) := by decide +kernel
theorem dX9_question_79 : decode cX9_question 79 = .ok (.aload_n 0, 1) := by decide +kernel
theorem dX9_question_80 : decode cX9_question 80 = .ok (.getfield 25, 3) := by decide +kernel
theorem dX9_question_83 : decode cX9_question 83 = .ok (.iconst 4, 1) := by decide +kernel
theorem dX9_question_84 : decode cX9_question 84 = .ok (.aload_n 0, 1) := by decide +kernel
theorem dX9_question_85 : decode cX9_question 85 = .ok (.getfield 133, 3) := by decide +kernel
theorem dX9_question_88 : decode cX9_question 88 = .ok (.imul, 1) := by decide +kernel
theorem dX9_question_89 : decode cX9_question 89 = .ok (.iconst 3, 1) := by decide +kernel
theorem dX9_question_90 : decode cX9_question 90 = .ok (.iadd, 1) := by decide +kernel
theorem dX9_question_91 : decode cX9_question 91 = .ok (.iconst 0, 1) := by decide +kernel
theorem dX9_question_92 : decode cX9_question 92 = .ok (.iastore, 1) := by decide +kernel
theorem dX9_question_93 : decode cX9_question 93 = .ok (.aload_n 0, 1) := by decide +kernel
theorem dX9_question_94 : decode cX9_question 94 = .ok (.dup, 1) := by decide +kernel
theorem dX9_question_95 : decode cX9_question 95 = .ok (.getfield 133, 3) := by decide +kernel
theorem dX9_question_98 : decode cX9_question 98 = .ok (.iconst 1, 1) := by decide +kernel
theorem dX9_question_99 : decode cX9_question 99 = .ok (.iadd, 1) := by decide +kernel
theorem dX9_question_100 : decode cX9_question 100 = .ok (.putfield 133, 3) := by decide +kernel
theorem dX9_question_103 : decode cX9_question 103 = .ok (.aload_n 0, 1) := by decide +kernel
theorem dX9_question_104 : decode cX9_question 104 = .ok (.getfield 133, 3) := by decide +kernel
theorem dX9_question_107 : decode cX9_question 107 = .ok (.iconst 1, 1) := by decide +kernel
theorem dX9_question_108 : decode cX9_question 108 = .ok (.isub, 1) := by decide +kernel
theorem dX9_question_109 : decode cX9_question 109 = .ok (.ireturn, 1) := by decide +kernel
theorem dX9_answered_0 : decode cX9_answered 0 = .ok (.iconst 0, 1) := by decide +kernel
theorem dX9_answered_1 : decode cX9_answered 1 = .ok (.istore_n 1, 1) := by decide +kernel
theorem dX9_answered_2 : decode cX9_answered 2 = .ok (.iconst 0, 1) := by decide +kernel
theorem dX9_answered_3 : decode cX9_answered 3 = .ok (.istore_n 2, 1) := by decide +kernel
theorem dX9_answered_4 : decode cX9_answered 4 = .ok (.iload_n 2, 1) := by decide +kernel
theorem dX9_answered_5 : decode cX9_answered 5 = .ok (.aload_n 0, 1) := by decide +kernel
theorem dX9_answered_6 : decode cX9_answered 6 = .ok (.getfield 133, 3) := by decide +kernel
theorem dX9_answered_9 : decode cX9_answered 9 = .ok (.if_icmp .ge 30, 3) := by decide +kernel
theorem dX9_answered_12 : decode cX9_answered 12 = .ok (.iload_n 1, 1) := by decide +kernel
theorem dX9_answered_13 : decode cX9_answered 13 = .ok (.aload_n 0, 1) := by decide +kernel
theorem dX9_answered_14 : decode cX9_answered 14 = .ok (.getfield 25, 3) := by decide +kernel
theorem dX9_answered_17 : decode cX9_answered 17 = .ok (.iconst 4, 1) := by decide +kernel
theorem dX9_answered_18 : decode cX9_answered 18 = .ok (.iload_n 2, 1) := by decide +kernel
theorem dX9_answered_19 : decode cX9_answered 19 = .ok (.imul, 1) := by decide +kernel
theorem dX9_answered_20 : decode cX9_answered 20 = .ok (.iconst 3, 1) := by decide +kernel
theorem dX9_answered_21 : decode cX9_answered 21 = .ok (.iadd, 1) := by decide +kernel
theorem dX9_answered_22 : decode cX9_answered 22 = .ok (.iaload, 1) := by decide +kernel
theorem dX9_answered_23 : decode cX9_answered 23 = .ok (.ifCond .le 7, 3) := by decide +kernel
theorem dX9_answered_26 : decode cX9_answered 26 = .ok (.iconst 1, 1) := by decide +kernel
theorem dX9_answered_27 : decode cX9_answered 27 = .ok (.goto 4, 3) := by decide +kernel
theorem dX9_answered_30 : decode cX9_answered 30 = .ok (.iconst 0, 1) := by decide +kernel
theorem dX9_answered_31 : decode cX9_answered 31 = .ok (.iadd, 1) := by decide +kernel
theorem dX9_answered_32 : decode cX9_answered 32 = .ok (.istore_n 1, 1) := by decide +kernel
theorem dX9_answered_33 : decode cX9_answered 33 = .ok (.iinc 2 1, 3) := by decide +kernel
theorem dX9_answered_36 : decode cX9_answered 36 = .ok (.goto (-32), 3) := by decide +kernel
theorem dX9_answered_39 : decode cX9_answered 39 = .ok (.iload_n 1, 1) := by decide +kernel
theorem dX9_answered_40 : decode cX9_answered 40 = .ok (.ireturn, 1) := by decide +kernel
theorem dX9_answer_0 : decode cX9_answer 0 = .ok (.iload_n 1, 1) := by decide +kernel
theorem dX9_answer_1 : decode cX9_answer 1 = .ok (.iconst 0, 1) := by decide +kernel
theorem dX9_answer_2 : decode cX9_answer 2 = .ok (.aload_n 0, 1) := by decide +kernel
theorem dX9_answer_3 : decode cX9_answer 3 = .ok (.getfield 133, 3) := by decide +kernel
theorem dX9_answer_6 : decode cX9_answer 6 = .ok (.iconst 1, 1) := by decide +kernel
theorem dX9_answer_7 : decode cX9_answer 7 = .ok (.isub, 1) := by decide +kernel
theorem dX9_answer_8 : decode cX9_answer 8 = .ok (.invokestatic 93, 3) := by decide +kernel
theorem dX9_answer_11 : decode cX9_answer 11 = .ok (.ifCond .ne 5, 3) := by decide +kernel
theorem dX9_answer_14 : decode cX9_answer 14 = .ok (.iconst (-1), 1) := by decide +kernel
theorem dX9_answer_15 : decode cX9_answer 15 = .ok (.ireturn, 1) := by decide +kernel
theorem dX9_answer_16 : decode cX9_answer 16 = .ok (.aload_n 0, 1) := by decide +kernel
theorem dX9_answer_17 : decode cX9_answer 17 = .ok (.getfield 25, 3) := by decide +kernel
theorem dX9_answer_20 : decode cX9_answer 20 = .ok (.iconst 4, 1) := by decide +kernel
theorem dX9_answer_21 : decode cX9_answer 21 = .ok (.iload_n 1, 1) := by decide +kernel
theorem dX9_answer_22 : decode cX9_answer 22 = .ok (.imul, 1) := by decide +kernel
theorem dX9_answer_23 : decode cX9_answer 23 = .ok (.iconst 3, 1) := by decide +kernel
theorem dX9_answer_24 : decode cX9_answer 24 = .ok (.iadd, 1) := by decide +kernel
theorem dX9_answer_25 : decode cX9_answer 25 = .ok (.iaload, 1) := by decide +kernel
theorem dX9_answer_26 : decode cX9_answer 26 = .ok (.ifCond .le 6, 3) := by decide +kernel
theorem dX9_answer_29 : decode cX9_answer 29 = .ok (.bipush (-4), 2) := by decide +kernel
theorem dX9_answer_31 : decode cX9_answer 31 = .ok (.ireturn, 1) := by decide +kernel
theorem dX9_answer_32 : decode cX9_answer 32 = .ok (.aload_n 0, 1) := by decide +kernel
theorem dX9_answer_33 : decode cX9_answer 33 = .ok (.getfield 25, 3) := by decide +kernel
theorem dX9_answer_36 : decode cX9_answer 36 = .ok (.iconst 4, 1) := by decide +kernel
theorem dX9_answer_37 : decode cX9_answer 37 = .ok (.iload_n 1, 1) := by decide +kernel
theorem dX9_answer_38 : decode cX9_answer 38 = .ok (.imul, 1) := by decide +kernel
theorem dX9_answer_39 : decode cX9_answer 39 = .ok (.iconst 3, 1) := by decide +kernel
theorem dX9_answer_40 : decode cX9_answer 40 = .ok (.iadd, 1) := by decide +kernel
theorem dX9_answer_41 : decode cX9_answer 41 = .ok (.iload_n 2, 1) := by decide +kernel
theorem dX9_answer_42 : decode cX9_answer 42 = .ok (.ifCond .eq 7, 3) := by decide +kernel
theorem dX9_answer_45 : decode cX9_answer 45 = .ok (.iconst 1, 1) := by decide +kernel
theorem dX9_answer_46 : decode cX9_answer 46 = .ok (.goto 4, 3) := by decide +kernel
theorem dX9_answer_49 : decode cX9_answer 49 = .ok (.iconst 2, 1) := by decide +kernel
theorem dX9_answer_50 : decode cX9_answer 50 = .ok (.iastore, 1) := by decide +kernel
theorem dX9_answer_51 : decode cX9_answer 51 = .ok (.aload_n 0, 1) := by decide +kernel
theorem dX9_answer_52 : decode cX9_answer 52 = .ok (.invokevirtual 335, 3) := by decide +kernel
theorem dX9_answer_55 : decode cX9_answer 55 = .ok (.ireturn, 1) := by decide +kernel
theorem dX9_next_0 : decode cX9_next 0 = .ok (.aload_n 0, 1) := by decide +kernel
theorem dX9_next_1 : decode cX9_next 1 = .ok (.iload_n 1, 1) := by decide +kernel
theorem dX9_next_2 : decode cX9_next 2 = .ok (.invokevirtual 100, 3) := by decide +kernel
theorem dX9_next_5 : decode cX9_next 5 = .ok (.ifCond .ne 5, 3) := by decide +kernel
theorem dX9_next_8 : decode cX9_next 8 = .ok (.iconst (-1), 1) := by decide +kernel
theorem dX9_next_9 : decode cX9_next 9 = .ok (.ireturn, 1) := by decide +kernel
theorem dX9_next_10 : decode cX9_next 10 = .ok (.bipush (-3), 2) := by decide +kernel
theorem dX9_next_12 : decode cX9_next 12 = .ok (.istore_n 2, 1) := by decide +kernel
theorem dX9_next_13 : decode cX9_next 13 = .ok (.lconst 0, 1) := by decide +kernel
theorem dX9_next_14 : decode cX9_next 14 = .ok (.lstore_n 3, 1) := by decide +kernel
theorem dX9_next_15 : decode cX9_next 15 = .ok (.iconst 0, 1) := by decide +kernel
theorem dX9_next_16 : decode cX9_next 16 = .ok (.istore 5, 2) := by decide +kernel
theorem dX9_next_18 : decode cX9_next 18 = .ok (.iload 5, 2) := by decide +kernel
theorem dX9_next_20 : decode cX9_next 20 = .ok (.aload_n 0, 1) := by decide +kernel
theorem dX9_next_21 : decode cX9_next 21 = .ok (.getfield 133, 3) := by decide +kernel
theorem dX9_next_24 : decode cX9_next 24 = .ok (.if_icmp .ge 125, 3) := by decide +kernel
theorem dX9_next_27 : decode cX9_next 27 = .ok (.aload_n 0, 1) := by decide +kernel
theorem dX9_next_28 : decode cX9_next 28 = .ok (.getfield 25, 3) := by decide +kernel
theorem dX9_next_31 : decode cX9_next 31 = .ok (.iconst 4, 1) := by decide +kernel
theorem dX9_next_32 : decode cX9_next 32 = .ok (.iload 5, 2) := by decide +kernel
theorem dX9_next_34 : decode cX9_next 34 = .ok (.imul, 1) := by decide +kernel
theorem dX9_next_35 : decode cX9_next 35 = .ok (.iaload, 1) := by decide +kernel
theorem dX9_next_36 : decode cX9_next 36 = .ok (.iload_n 1, 1) := by decide +kernel
theorem dX9_next_37 : decode cX9_next 37 = .ok (.if_icmp .ne 106, 3) := by decide +kernel
theorem dX9_next_40 : decode cX9_next 40 = .ok (.aload_n 0, 1) := by decide +kernel
theorem dX9_next_41 : decode cX9_next 41 = .ok (.getfield 25, 3) := by decide +kernel
theorem dX9_next_44 : decode cX9_next 44 = .ok (.iconst 4, 1) := by decide +kernel
theorem dX9_next_45 : decode cX9_next 45 = .ok (.iload 5, 2) := by decide +kernel
theorem dX9_next_47 : decode cX9_next 47 = .ok (.imul, 1) := by decide +kernel
theorem dX9_next_48 : decode cX9_next 48 = .ok (.iconst 3, 1) := by decide +kernel
theorem dX9_next_49 : decode cX9_next 49 = .ok (.iadd, 1) := by decide +kernel
theorem dX9_next_50 : decode cX9_next 50 = .ok (.iaload, 1) := by decide +kernel
theorem dX9_next_51 : decode cX9_next 51 = .ok (.ifCond .ne 92, 3) := by decide +kernel
theorem dX9_next_54 : decode cX9_next 54 = .ok (.aload_n 0, 1) := by decide +kernel
theorem dX9_next_55 : decode cX9_next 55 = .ok (.iload_n 1, 1) := by decide +kernel
theorem dX9_next_56 : decode cX9_next 56 = .ok (.iconst 0, 1) := by decide +kernel
theorem dX9_next_57 : decode cX9_next 57 = .ok (.aload_n 0, 1) := by decide +kernel
theorem dX9_next_58 : decode cX9_next 58 = .ok (.getfield 25, 3) := by decide +kernel
theorem dX9_next_61 : decode cX9_next 61 = .ok (.iconst 4, 1) := by decide +kernel
theorem dX9_next_62 : decode cX9_next 62 = .ok (.iload 5, 2) := by decide +kernel
theorem dX9_next_64 : decode cX9_next 64 = .ok (.imul, 1) := by decide +kernel
theorem dX9_next_65 : decode cX9_next 65 = .ok (.iconst 1, 1) := by decide +kernel
theorem dX9_next_66 : decode cX9_next 66 = .ok (.iadd, 1) := by decide +kernel
theorem dX9_next_67 : decode cX9_next 67 = .ok (.iaload, 1) := by decide +kernel
theorem dX9_next_68 : decode cX9_next 68 = .ok (.invokevirtual 143, 3) := by decide +kernel
theorem dX9_next_71 : decode cX9_next 71 = .ok (.lstore 6, 2) := by decide +kernel
theorem dX9_next_73 : decode cX9_next 73 = .ok (.aload_n 0, 1) := by decide +kernel
theorem dX9_next_74 : decode cX9_next 74 = .ok (.iload_n 1, 1) := by decide +kernel
theorem dX9_next_75 : decode cX9_next 75 = .ok (.aload_n 0, 1) := by decide +kernel
theorem dX9_next_76 : decode cX9_next 76 = .ok (.getfield 25, 3) := by decide +kernel
theorem dX9_next_79 : decode cX9_next 79 = .ok (.iconst 4, 1) := by decide +kernel
theorem dX9_next_80 : decode cX9_next 80 = .ok (.iload 5, 2) := by decide +kernel
theorem dX9_next_82 : decode cX9_next 82 = .ok (.imul, 1) := by decide +kernel
theorem dX9_next_83 : decode cX9_next 83 = .ok (.iconst 1, 1) := by decide +kernel
theorem dX9_next_84 : decode cX9_next 84 = .ok (.iadd, 1) := by decide +kernel
theorem dX9_next_85 : decode cX9_next 85 = .ok (.iaload, 1) := by decide +kernel
theorem dX9_next_86 : decode cX9_next 86 = .ok (.iconst 1, 1) := by decide +kernel
theorem dX9_next_87 : decode cX9_next 87 = .ok (.iadd, 1) := by decide +kernel
theorem dX9_next_88 : decode cX9_next 88 = .ok (.sipush 160, 3) := by decide +kernel
theorem dX9_next_91 : decode cX9_next 91 = .ok (.invokevirtual 143, 3) := by decide +kernel
theorem dX9_next_94 : decode cX9_next 94 = .ok (.lstore 8, 2) := by decide +kernel
theorem dX9_next_96 : decode cX9_next 96 = .ok (.aload_n 0, 1) := by decide +kernel
theorem dX9_next_97 : decode cX9_next 97 = .ok (.getfield 25, 3) := by decide +kernel
theorem dX9_next_100 : decode cX9_next 100 = .ok (.iconst 4, 1) := by decide +kernel
theorem dX9_next_101 : decode cX9_next 101 = .ok (.iload 5, 2) := by decide +kernel
theorem dX9_next_103 : decode cX9_next 103 = .ok (.imul, 1) := by decide +kernel
theorem dX9_next_104 : decode cX9_next 104 = .ok (.iconst 2, 1) := by decide +kernel
theorem dX9_next_105 : decode cX9_next 105 = .ok (.iadd, 1) := by decide +kernel
theorem dX9_next_106 : decode cX9_next 106 = .ok (.iaload, 1) := by decide +kernel
theorem dX9_next_107 : decode cX9_next 107 = .ok (.i2l, 1) := by decide +kernel
theorem dX9_next_108 : decode cX9_next 108 = .ok (.lload 6, 2) := by decide +kernel
theorem dX9_next_110 : decode cX9_next 110 = .ok (.lload 8, 2) := by decide +kernel
theorem dX9_next_112 : decode cX9_next 112 = .ok (.lcmp, 1) := by decide +kernel
theorem dX9_next_113 : decode cX9_next 113 = .ok (.ifCond .le 8, 3) := by decide +kernel
theorem dX9_next_116 : decode cX9_next 116 = .ok (.lload 6, 2) := by decide +kernel
theorem dX9_next_118 : decode cX9_next 118 = .ok (.goto 5, 3) := by decide +kernel
theorem dX9_next_121 : decode cX9_next 121 = .ok (.lload 8, 2) := by decide +kernel
theorem dX9_next_123 : decode cX9_next 123 = .ok (.lmul, 1) := by decide +kernel
theorem dX9_next_124 : decode cX9_next 124 = .ok (.lstore 10, 2) := by decide +kernel
theorem dX9_next_126 : decode cX9_next 126 = .ok (.iload_n 2, 1) := by decide +kernel
theorem dX9_next_127 : decode cX9_next 127 = .ok (.ifCond .lt 10, 3) := by decide +kernel
theorem dX9_next_130 : decode cX9_next 130 = .ok (.lload 10, 2) := by decide +kernel
theorem dX9_next_132 : decode cX9_next 132 = .ok (.lload_n 3, 1) := by decide +kernel
theorem dX9_next_133 : decode cX9_next 133 = .ok (.lcmp, 1) := by decide +kernel
theorem dX9_next_134 : decode cX9_next 134 = .ok (.ifCond .ge 9, 3) := by decide +kernel
theorem dX9_next_137 : decode cX9_next 137 = .ok (.iload 5, 2) := by decide +kernel
theorem dX9_next_139 : decode cX9_next 139 = .ok (.istore_n 2, 1) := by decide +kernel
theorem dX9_next_140 : decode cX9_next 140 = .ok (.lload 10, 2) := by decide +kernel
theorem dX9_next_142 : decode cX9_next 142 = .ok (.lstore_n 3, 1) := by decide +kernel
theorem dX9_next_143 : decode cX9_next 143 = .ok (.iinc 5 1, 3) := by decide +kernel
theorem dX9_next_146 : decode cX9_next 146 = .ok (.goto (-128), 3) := by decide +kernel
theorem dX9_next_149 : decode cX9_next 149 = .ok (.iload_n 2, 1) := by decide +kernel
theorem dX9_next_150 : decode cX9_next 150 = .ok (.ireturn, 1) := by decide +kernel
theorem dX9_prove_0 : decode cX9_prove 0 = .ok (.aload_n 0, 1) := by decide +kernel
theorem dX9_prove_1 : decode cX9_prove 1 = .ok (.iload_n 1, 1) := by decide +kernel
theorem dX9_prove_2 : decode cX9_prove 2 = .ok (.invokevirtual 100, 3) := by decide +kernel
theorem dX9_prove_5 : decode cX9_prove 5 = .ok (.ifCond .ne 5, 3) := by decide +kernel
theorem dX9_prove_8 : decode cX9_prove 8 = .ok (.iconst (-1), 1) := by decide +kernel
theorem dX9_prove_9 : decode cX9_prove 9 = .ok (.ireturn, 1) := by decide +kernel
theorem dX9_prove_10 : decode cX9_prove 10 = .ok (.aload_n 0, 1) := by decide +kernel
theorem dX9_prove_11 : decode cX9_prove 11 = .ok (.iload_n 1, 1) := by decide +kernel
theorem dX9_prove_12 : decode cX9_prove 12 = .ok (.invokevirtual 153, 3) := by decide +kernel
theorem dX9_prove_15 : decode cX9_prove 15 = .ok (.istore_n 2, 1) := by decide +kernel
theorem dX9_prove_16 : decode cX9_prove 16 = .ok (.iload_n 2, 1) := by decide +kernel
theorem dX9_prove_17 : decode cX9_prove 17 = .ok (.ifCond .ge 6, 3) := by decide +kernel
theorem dX9_prove_20 : decode cX9_prove 20 = .ok (.bipush (-3), 2) := by decide +kernel
theorem dX9_prove_22 : decode cX9_prove 22 = .ok (.ireturn, 1) := by decide +kernel
theorem dX9_prove_23 : decode cX9_prove 23 = .ok (.aload_n 0, 1) := by decide +kernel
theorem dX9_prove_24 : decode cX9_prove 24 = .ok (.getfield 58, 3) := by decide +kernel
theorem dX9_prove_27 : decode cX9_prove 27 = .ok (.iconst 0, 1) := by decide +kernel
theorem dX9_prove_28 : decode cX9_prove 28 = .ok (.iload_n 1, 1) := by decide +kernel
theorem dX9_prove_29 : decode cX9_prove 29 = .ok (.iastore, 1) := by decide +kernel
theorem dX9_prove_30 : decode cX9_prove 30 = .ok (.aload_n 0, 1) := by decide +kernel
theorem dX9_prove_31 : decode cX9_prove 31 = .ok (.getfield 58, 3) := by decide +kernel
theorem dX9_prove_34 : decode cX9_prove 34 = .ok (.iconst 1, 1) := by decide +kernel
theorem dX9_prove_35 : decode cX9_prove 35 = .ok (.iload_n 2, 1) := by decide +kernel
theorem dX9_prove_36 : decode cX9_prove 36 = .ok (.iastore, 1) := by decide +kernel
theorem dX9_prove_37 : decode cX9_prove 37 = .ok (.aload_n 0, 1) := by decide +kernel
theorem dX9_prove_38 : decode cX9_prove 38 = .ok (.iconst 1, 1) := by decide +kernel
theorem dX9_prove_39 : decode cX9_prove 39 = .ok (.putfield 338, 3) := by decide +kernel
theorem dX9_prove_42 : decode cX9_prove 42 = .ok (.iconst 0, 1) := by decide +kernel
theorem dX9_prove_43 : decode cX9_prove 43 = .ok (.istore_n 3, 1) := by decide +kernel
theorem dX9_prove_44 : decode cX9_prove 44 = .ok (.iload_n 3, 1) := by decide +kernel
theorem dX9_prove_45 : decode cX9_prove 45 = .ok (.aload_n 0, 1) := by decide +kernel
theorem dX9_prove_46 : decode cX9_prove 46 = .ok (.getfield 97, 3) := by decide +kernel
theorem dX9_prove_49 : decode cX9_prove 49 = .ok (.if_icmp .ge 71, 3) := by decide +kernel
theorem dX9_prove_52 : decode cX9_prove 52 = .ok (.aload_n 0, 1) := by decide +kernel
theorem dX9_prove_53 : decode cX9_prove 53 = .ok (.getfield 13, 3) := by decide +kernel
theorem dX9_prove_56 : decode cX9_prove 56 = .ok (.bipush 6, 2) := by decide +kernel
theorem dX9_prove_58 : decode cX9_prove 58 = .ok (.iload_n 3, 1) := by decide +kernel
theorem dX9_prove_59 : decode cX9_prove 59 = .ok (.imul, 1) := by decide +kernel
theorem dX9_prove_60 : decode cX9_prove 60 = .ok (.iaload, 1) := by decide +kernel
theorem dX9_prove_61 : decode cX9_prove 61 = .ok (.iload_n 1, 1) := by decide +kernel
theorem dX9_prove_62 : decode cX9_prove 62 = .ok (.if_icmp .ne 52, 3) := by decide +kernel
theorem dX9_prove_65 : decode cX9_prove 65 = .ok (.aload_n 0, 1) := by decide +kernel
theorem dX9_prove_66 : decode cX9_prove 66 = .ok (.getfield 58, 3) := by decide +kernel
theorem dX9_prove_69 : decode cX9_prove 69 = .ok (.iconst 2, 1) := by decide +kernel
theorem dX9_prove_70 : decode cX9_prove 70 = .ok (.aload_n 0, 1) := by decide +kernel
theorem dX9_prove_71 : decode cX9_prove 71 = .ok (.getfield 338, 3) := by decide +kernel
theorem dX9_prove_74 : decode cX9_prove 74 = .ok (.imul, 1) := by decide +kernel
theorem dX9_prove_75 : decode cX9_prove 75 = .ok (.iload_n 3, 1) := by decide +kernel
theorem dX9_prove_76 : decode cX9_prove 76 = .ok (.iastore, 1) := by decide +kernel
theorem dX9_prove_77 : decode cX9_prove 77 = .ok (.aload_n 0, 1) := by decide +kernel
theorem dX9_prove_78 : decode cX9_prove 78 = .ok (.getfield 58, 3) := by decide +kernel
theorem dX9_prove_81 : decode cX9_prove 81 = .ok (.iconst 2, 1) := by decide +kernel
theorem dX9_prove_82 : decode cX9_prove 82 = .ok (.aload_n 0, 1) := by decide +kernel
theorem dX9_prove_83 : decode cX9_prove 83 = .ok (.getfield 338, 3) := by decide +kernel
theorem dX9_prove_86 : decode cX9_prove 86 = .ok (.imul, 1) := by decide +kernel
theorem dX9_prove_87 : decode cX9_prove 87 = .ok (.iconst 1, 1) := by decide +kernel
theorem dX9_prove_88 : decode cX9_prove 88 = .ok (.iadd, 1) := by decide +kernel
theorem dX9_prove_89 : decode cX9_prove 89 = .ok (.aload_n 0, 1) := by decide +kernel
theorem dX9_prove_90 : decode cX9_prove 90 = .ok (.iload_n 3, 1) := by decide +kernel
theorem dX9_prove_91 : decode cX9_prove 91 = .ok (.iload_n 2, 1) := by decide +kernel
theorem dX9_prove_92 : decode cX9_prove 92 = .ok (.invokevirtual 121, 3) := by decide +kernel
theorem dX9_prove_95 : decode cX9_prove 95 = .ok (.ifCond .eq 7, 3) := by decide +kernel
theorem dX9_prove_98 : decode cX9_prove 98 = .ok (.iconst 1, 1) := by decide +kernel
theorem dX9_prove_99 : decode cX9_prove 99 = .ok (.goto 4, 3) := by decide +kernel
theorem dX9_prove_102 : decode cX9_prove 102 = .ok (.iconst 0, 1) := by decide +kernel
theorem dX9_prove_103 : decode cX9_prove 103 = .ok (.iastore, 1) := by decide +kernel
theorem dX9_prove_104 : decode cX9_prove 104 = .ok (.aload_n 0, 1) := by decide +kernel
theorem dX9_prove_105 : decode cX9_prove 105 = .ok (.dup, 1) := by decide +kernel
theorem dX9_prove_106 : decode cX9_prove 106 = .ok (.getfield 338, 3) := by decide +kernel
theorem dX9_prove_109 : decode cX9_prove 109 = .ok (.iconst 1, 1) := by decide +kernel
theorem dX9_prove_110 : decode cX9_prove 110 = .ok (.iadd, 1) := by decide +kernel
theorem dX9_prove_111 : decode cX9_prove 111 = .ok (.putfield 338, 3) := by decide +kernel
theorem dX9_prove_114 : decode cX9_prove 114 = .ok (.iinc 3 1, 3) := by decide +kernel
theorem dX9_prove_117 : decode cX9_prove 117 = .ok (.goto (-73), 3) := by decide +kernel
theorem dX9_prove_120 : decode cX9_prove 120 = .ok (.aload_n 0, 1) := by decide +kernel
theorem dX9_prove_121 : decode cX9_prove 121 = .ok (.getfield 338, 3) := by decide +kernel
theorem dX9_prove_124 : decode cX9_prove 124 = .ok (.ireturn, 1) := by decide +kernel
theorem dX9_isRow_0 : decode cX9_isRow 0 = .ok (.iload_n 1, 1) := by decide +kernel
theorem dX9_isRow_1 : decode cX9_isRow 1 = .ok (.iconst 0, 1) := by decide +kernel
theorem dX9_isRow_2 : decode cX9_isRow 2 = .ok (.aload_n 0, 1) := by decide +kernel
theorem dX9_isRow_3 : decode cX9_isRow 3 = .ok (.getfield 338, 3) := by decide +kernel
theorem dX9_isRow_6 : decode cX9_isRow 6 = .ok (.iconst 1, 1) := by decide +kernel
theorem dX9_isRow_7 : decode cX9_isRow 7 = .ok (.isub, 1) := by decide +kernel
theorem dX9_isRow_8 : decode cX9_isRow 8 = .ok (.invokestatic 93, 3) := by decide +kernel
theorem dX9_isRow_11 : decode cX9_isRow 11 = .ok (.ifCond .eq 16, 3) := by decide +kernel
theorem dX9_isRow_14 : decode cX9_isRow 14 = .ok (.iload_n 2, 1) := by decide +kernel
theorem dX9_isRow_15 : decode cX9_isRow 15 = .ok (.iconst 0, 1) := by decide +kernel
theorem dX9_isRow_16 : decode cX9_isRow 16 = .ok (.iconst 1, 1) := by decide +kernel
theorem dX9_isRow_17 : decode cX9_isRow 17 = .ok (.invokestatic 93, 3) := by decide +kernel
theorem dX9_isRow_20 : decode cX9_isRow 20 = .ok (.ifCond .eq 7, 3) := by decide +kernel
theorem dX9_isRow_23 : decode cX9_isRow 23 = .ok (.iconst 1, 1) := by decide +kernel
theorem dX9_isRow_24 : decode cX9_isRow 24 = .ok (.goto 4, 3) := by decide +kernel
theorem dX9_isRow_27 : decode cX9_isRow 27 = .ok (.iconst 0, 1) := by decide +kernel
theorem dX9_isRow_28 : decode cX9_isRow 28 = .ok (.ireturn, 1) := by decide +kernel
theorem dX9_row_0 : decode cX9_row 0 = .ok (.aload_n 0, 1) := by decide +kernel
theorem dX9_row_1 : decode cX9_row 1 = .ok (.iload_n 1, 1) := by decide +kernel
theorem dX9_row_2 : decode cX9_row 2 = .ok (.iload_n 2, 1) := by decide +kernel
theorem dX9_row_3 : decode cX9_row 3 = .ok (.invokevirtual 341, 3) := by decide +kernel
theorem dX9_row_6 : decode cX9_row 6 = .ok (.ifCond .eq 16, 3) := by decide +kernel
theorem dX9_row_9 : decode cX9_row 9 = .ok (.aload_n 0, 1) := by decide +kernel
theorem dX9_row_10 : decode cX9_row 10 = .ok (.getfield 58, 3) := by decide +kernel
theorem dX9_row_13 : decode cX9_row 13 = .ok (.iconst 2, 1) := by decide +kernel
theorem dX9_row_14 : decode cX9_row 14 = .ok (.iload_n 1, 1) := by decide +kernel
theorem dX9_row_15 : decode cX9_row 15 = .ok (.imul, 1) := by decide +kernel
theorem dX9_row_16 : decode cX9_row 16 = .ok (.iload_n 2, 1) := by decide +kernel
theorem dX9_row_17 : decode cX9_row 17 = .ok (.iadd, 1) := by decide +kernel
theorem dX9_row_18 : decode cX9_row 18 = .ok (.iaload, 1) := by decide +kernel
theorem dX9_row_19 : decode cX9_row 19 = .ok (.goto 5, 3) := by decide +kernel
theorem dX9_row_22 : decode cX9_row 22 = .ok (.bipush (-9), 2) := by decide +kernel
theorem dX9_row_24 : decode cX9_row 24 = .ok (.ireturn, 1) := by decide +kernel
theorem dX9_alterRow_0 : decode cX9_alterRow 0 = .ok (.aload_n 0, 1) := by decide +kernel
theorem dX9_alterRow_1 : decode cX9_alterRow 1 = .ok (.iload_n 1, 1) := by decide +kernel
theorem dX9_alterRow_2 : decode cX9_alterRow 2 = .ok (.iload_n 2, 1) := by decide +kernel
theorem dX9_alterRow_3 : decode cX9_alterRow 3 = .ok (.invokevirtual 341, 3) := by decide +kernel
theorem dX9_alterRow_6 : decode cX9_alterRow 6 = .ok (.ifCond .ne 6, 3) := by decide +kernel
theorem dX9_alterRow_9 : decode cX9_alterRow 9 = .ok (.bipush (-9), 2) := by decide +kernel
theorem dX9_alterRow_11 : decode cX9_alterRow 11 = .ok (.ireturn, 1) := by decide +kernel
theorem dX9_alterRow_12 : decode cX9_alterRow 12 = .ok (.aload_n 0, 1) := by decide +kernel
theorem dX9_alterRow_13 : decode cX9_alterRow 13 = .ok (.getfield 58, 3) := by decide +kernel
theorem dX9_alterRow_16 : decode cX9_alterRow 16 = .ok (.iconst 2, 1) := by decide +kernel
theorem dX9_alterRow_17 : decode cX9_alterRow 17 = .ok (.iload_n 1, 1) := by decide +kernel
theorem dX9_alterRow_18 : decode cX9_alterRow 18 = .ok (.imul, 1) := by decide +kernel
theorem dX9_alterRow_19 : decode cX9_alterRow 19 = .ok (.iload_n 2, 1) := by decide +kernel
theorem dX9_alterRow_20 : decode cX9_alterRow 20 = .ok (.iadd, 1) := by decide +kernel
theorem dX9_alterRow_21 : decode cX9_alterRow 21 = .ok (.iaload, 1) := by decide +kernel
theorem dX9_alterRow_22 : decode cX9_alterRow 22 = .ok (.istore 4, 2) := by decide +kernel
theorem dX9_alterRow_24 : decode cX9_alterRow 24 = .ok (.aload_n 0, 1) := by decide +kernel
theorem dX9_alterRow_25 : decode cX9_alterRow 25 = .ok (.getfield 58, 3) := by decide +kernel
theorem dX9_alterRow_28 : decode cX9_alterRow 28 = .ok (.iconst 2, 1) := by decide +kernel
theorem dX9_alterRow_29 : decode cX9_alterRow 29 = .ok (.iload_n 1, 1) := by decide +kernel
theorem dX9_alterRow_30 : decode cX9_alterRow 30 = .ok (.imul, 1) := by decide +kernel
theorem dX9_alterRow_31 : decode cX9_alterRow 31 = .ok (.iload_n 2, 1) := by decide +kernel
theorem dX9_alterRow_32 : decode cX9_alterRow 32 = .ok (.iadd, 1) := by decide +kernel
theorem dX9_alterRow_33 : decode cX9_alterRow 33 = .ok (.iload_n 3, 1) := by decide +kernel
theorem dX9_alterRow_34 : decode cX9_alterRow 34 = .ok (.iastore, 1) := by decide +kernel
theorem dX9_alterRow_35 : decode cX9_alterRow 35 = .ok (.iload 4, 2) := by decide +kernel
theorem dX9_alterRow_37 : decode cX9_alterRow 37 = .ok (.ireturn, 1) := by decide +kernel
theorem dX9_paperFrom_0 : decode cX9_paperFrom 0 = .ok (.iload_n 2, 1) := by decide +kernel
theorem dX9_paperFrom_1 : decode cX9_paperFrom 1 = .ok (.istore_n 3, 1) := by decide +kernel
theorem dX9_paperFrom_2 : decode cX9_paperFrom 2 = .ok (.iload_n 3, 1) := by decide +kernel
theorem dX9_paperFrom_3 : decode cX9_paperFrom 3 = .ok (.aload_n 0, 1) := by decide +kernel
theorem dX9_paperFrom_4 : decode cX9_paperFrom 4 = .ok (.getfield 97, 3) := by decide +kernel
theorem dX9_paperFrom_7 : decode cX9_paperFrom 7 = .ok (.if_icmp .ge 24, 3) := by decide +kernel
theorem dX9_paperFrom_10 : decode cX9_paperFrom 10 = .ok (.aload_n 0, 1) := by decide +kernel
theorem dX9_paperFrom_11 : decode cX9_paperFrom 11 = .ok (.getfield 13, 3) := by decide +kernel
theorem dX9_paperFrom_14 : decode cX9_paperFrom 14 = .ok (.bipush 6, 2) := by decide +kernel
theorem dX9_paperFrom_16 : decode cX9_paperFrom 16 = .ok (.iload_n 3, 1) := by decide +kernel
theorem dX9_paperFrom_17 : decode cX9_paperFrom 17 = .ok (.imul, 1) := by decide +kernel
theorem dX9_paperFrom_18 : decode cX9_paperFrom 18 = .ok (.iaload, 1) := by decide +kernel
theorem dX9_paperFrom_19 : decode cX9_paperFrom 19 = .ok (.iload_n 1, 1) := by decide +kernel
theorem dX9_paperFrom_20 : decode cX9_paperFrom 20 = .ok (.if_icmp .ne 5, 3) := by decide +kernel
theorem dX9_paperFrom_23 : decode cX9_paperFrom 23 = .ok (.iload_n 3, 1) := by decide +kernel
theorem dX9_paperFrom_24 : decode cX9_paperFrom 24 = .ok (.ireturn, 1) := by decide +kernel
theorem dX9_paperFrom_25 : decode cX9_paperFrom 25 = .ok (.iinc 3 1, 3) := by decide +kernel
theorem dX9_paperFrom_28 : decode cX9_paperFrom 28 = .ok (.goto (-26), 3) := by decide +kernel
theorem dX9_paperFrom_31 : decode cX9_paperFrom 31 = .ok (.iconst (-1), 1) := by decide +kernel
theorem dX9_paperFrom_32 : decode cX9_paperFrom 32 = .ok (.ireturn, 1) := by decide +kernel
theorem dX9_judge_0 : decode cX9_judge 0 = .ok (.aload_n 0, 1) := by decide +kernel
theorem dX9_judge_1 : decode cX9_judge 1 = .ok (.getfield 338, 3) := by decide +kernel
theorem dX9_judge_4 : decode cX9_judge 4 = .ok (.ifCond .ne 6, 3) := by decide +kernel
theorem dX9_judge_7 : decode cX9_judge 7 = .ok (.bipush 30, 2) := by decide +kernel
theorem dX9_judge_9 : decode cX9_judge 9 = .ok (.ireturn, 1) := by decide +kernel
theorem dX9_judge_10 : decode cX9_judge 10 = .ok (.aload_n 0, 1) := by decide +kernel
theorem dX9_judge_11 : decode cX9_judge 11 = .ok (.getfield 58, 3) := by decide +kernel
theorem dX9_judge_14 : decode cX9_judge 14 = .ok (.iconst 0, 1) := by decide +kernel
theorem dX9_judge_15 : decode cX9_judge 15 = .ok (.iaload, 1) := by decide +kernel
theorem dX9_judge_16 : decode cX9_judge 16 = .ok (.istore_n 1, 1) := by decide +kernel
theorem dX9_judge_17 : decode cX9_judge 17 = .ok (.aload_n 0, 1) := by decide +kernel
theorem dX9_judge_18 : decode cX9_judge 18 = .ok (.iload_n 1, 1) := by decide +kernel
theorem dX9_judge_19 : decode cX9_judge 19 = .ok (.invokevirtual 100, 3) := by decide +kernel
theorem dX9_judge_22 : decode cX9_judge 22 = .ok (.ifCond .eq 25, 3) := by decide +kernel
theorem dX9_judge_25 : decode cX9_judge 25 = .ok (.aload_n 0, 1) := by decide +kernel
theorem dX9_judge_26 : decode cX9_judge 26 = .ok (.iload_n 1, 1) := by decide +kernel
theorem dX9_judge_27 : decode cX9_judge 27 = .ok (.invokevirtual 153, 3) := by decide +kernel
theorem dX9_judge_30 : decode cX9_judge 30 = .ok (.ifCond .lt 17, 3) := by decide +kernel
theorem dX9_judge_33 : decode cX9_judge 33 = .ok (.aload_n 0, 1) := by decide +kernel
theorem dX9_judge_34 : decode cX9_judge 34 = .ok (.iload_n 1, 1) := by decide +kernel
theorem dX9_judge_35 : decode cX9_judge 35 = .ok (.invokevirtual 153, 3) := by decide +kernel
theorem dX9_judge_38 : decode cX9_judge 38 = .ok (.aload_n 0, 1) := by decide +kernel
theorem dX9_judge_39 : decode cX9_judge 39 = .ok (.getfield 58, 3) := by decide +kernel
theorem dX9_judge_42 : decode cX9_judge 42 = .ok (.iconst 1, 1) := by decide +kernel
theorem dX9_judge_43 : decode cX9_judge 43 = .ok (.iaload, 1) := by decide +kernel
theorem dX9_judge_44 : decode cX9_judge 44 = .ok (.if_icmp .eq 5, 3) := by decide +kernel
theorem dX9_judge_47 : decode cX9_judge 47 = .ok (.iconst 1, 1) := by decide +kernel
theorem dX9_judge_48 : decode cX9_judge 48 = .ok (.ireturn, 1) := by decide +kernel
theorem dX9_judge_49 : decode cX9_judge 49 = .ok (.iconst 0, 1) := by decide +kernel
theorem dX9_judge_50 : decode cX9_judge 50 = .ok (.istore_n 2, 1) := by decide +kernel
theorem dX9_judge_51 : decode cX9_judge 51 = .ok (.iconst 1, 1) := by decide +kernel
theorem dX9_judge_52 : decode cX9_judge 52 = .ok (.istore_n 3, 1) := by decide +kernel
theorem dX9_judge_53 : decode cX9_judge 53 = .ok (.iload_n 3, 1) := by decide +kernel
theorem dX9_judge_54 : decode cX9_judge 54 = .ok (.aload_n 0, 1) := by decide +kernel
theorem dX9_judge_55 : decode cX9_judge 55 = .ok (.getfield 338, 3) := by decide +kernel
theorem dX9_judge_58 : decode cX9_judge 58 = .ok (.if_icmp .ge 77, 3) := by decide +kernel
theorem dX9_judge_61 : decode cX9_judge 61 = .ok (.aload_n 0, 1) := by decide +kernel
theorem dX9_judge_62 : decode cX9_judge 62 = .ok (.iload_n 1, 1) := by decide +kernel
theorem dX9_judge_63 : decode cX9_judge 63 = .ok (.iload_n 2, 1) := by decide +kernel
theorem dX9_judge_64 : decode cX9_judge 64 = .ok (.invokevirtual 344, 3) := by decide +kernel
theorem dX9_judge_67 : decode cX9_judge 67 = .ok (.istore 4, 2) := by decide +kernel
theorem dX9_judge_69 : decode cX9_judge 69 = .ok (.iload 4, 2) := by decide +kernel
theorem dX9_judge_71 : decode cX9_judge 71 = .ok (.ifCond .lt 49, 3) := by decide +kernel
theorem dX9_judge_74 : decode cX9_judge 74 = .ok (.aload_n 0, 1) := by decide +kernel
theorem dX9_judge_75 : decode cX9_judge 75 = .ok (.getfield 58, 3) := by decide +kernel
theorem dX9_judge_78 : decode cX9_judge 78 = .ok (.iconst 2, 1) := by decide +kernel
theorem dX9_judge_79 : decode cX9_judge 79 = .ok (.iload_n 3, 1) := by decide +kernel
theorem dX9_judge_80 : decode cX9_judge 80 = .ok (.imul, 1) := by decide +kernel
theorem dX9_judge_81 : decode cX9_judge 81 = .ok (.iaload, 1) := by decide +kernel
theorem dX9_judge_82 : decode cX9_judge 82 = .ok (.iload 4, 2) := by decide +kernel
theorem dX9_judge_84 : decode cX9_judge 84 = .ok (.if_icmp .ne 36, 3) := by decide +kernel
theorem dX9_judge_87 : decode cX9_judge 87 = .ok (.aload_n 0, 1) := by decide +kernel
theorem dX9_judge_88 : decode cX9_judge 88 = .ok (.getfield 58, 3) := by decide +kernel
theorem dX9_judge_91 : decode cX9_judge 91 = .ok (.iconst 2, 1) := by decide +kernel
theorem dX9_judge_92 : decode cX9_judge 92 = .ok (.iload_n 3, 1) := by decide +kernel
theorem dX9_judge_93 : decode cX9_judge 93 = .ok (.imul, 1) := by decide +kernel
theorem dX9_judge_94 : decode cX9_judge 94 = .ok (.iconst 1, 1) := by decide +kernel
theorem dX9_judge_95 : decode cX9_judge 95 = .ok (.iadd, 1) := by decide +kernel
theorem dX9_judge_96 : decode cX9_judge 96 = .ok (.iaload, 1) := by decide +kernel
theorem dX9_judge_97 : decode cX9_judge 97 = .ok (.aload_n 0, 1) := by decide +kernel
theorem dX9_judge_98 : decode cX9_judge 98 = .ok (.iload 4, 2) := by decide +kernel
theorem dX9_judge_100 : decode cX9_judge 100 = .ok (.aload_n 0, 1) := by decide +kernel
theorem dX9_judge_101 : decode cX9_judge 101 = .ok (.getfield 58, 3) := by decide +kernel
theorem dX9_judge_104 : decode cX9_judge 104 = .ok (.iconst 1, 1) := by decide +kernel
theorem dX9_judge_105 : decode cX9_judge 105 = .ok (.iaload, 1) := by decide +kernel
theorem dX9_judge_106 : decode cX9_judge 106 = .ok (.invokevirtual 121, 3) := by decide +kernel
theorem dX9_judge_109 : decode cX9_judge 109 = .ok (.ifCond .eq 7, 3) := by decide +kernel
theorem dX9_judge_112 : decode cX9_judge 112 = .ok (.iconst 1, 1) := by decide +kernel
theorem dX9_judge_113 : decode cX9_judge 113 = .ok (.goto 4, 3) := by decide +kernel
theorem dX9_judge_116 : decode cX9_judge 116 = .ok (.iconst 0, 1) := by decide +kernel
theorem dX9_judge_117 : decode cX9_judge 117 = .ok (.if_icmp .eq 7, 3) := by decide +kernel
theorem dX9_judge_120 : decode cX9_judge 120 = .ok (.iload_n 3, 1) := by decide +kernel
theorem dX9_judge_121 : decode cX9_judge 121 = .ok (.iconst 1, 1) := by decide +kernel
theorem dX9_judge_122 : decode cX9_judge 122 = .ok (.iadd, 1) := by decide +kernel
theorem dX9_judge_123 : decode cX9_judge 123 = .ok (.ireturn, 1) := by decide +kernel
theorem dX9_judge_124 : decode cX9_judge 124 = .ok (.iload 4, 2) := by decide +kernel
theorem dX9_judge_126 : decode cX9_judge 126 = .ok (.iconst 1, 1) := by decide +kernel
theorem dX9_judge_127 : decode cX9_judge 127 = .ok (.iadd, 1) := by decide +kernel
theorem dX9_judge_128 : decode cX9_judge 128 = .ok (.istore_n 2, 1) := by decide +kernel
theorem dX9_judge_129 : decode cX9_judge 129 = .ok (.iinc 3 1, 3) := by decide +kernel
theorem dX9_judge_132 : decode cX9_judge 132 = .ok (.goto (-79), 3) := by decide +kernel
theorem dX9_judge_135 : decode cX9_judge 135 = .ok (.aload_n 0, 1) := by decide +kernel
theorem dX9_judge_136 : decode cX9_judge 136 = .ok (.iload_n 1, 1) := by decide +kernel
theorem dX9_judge_137 : decode cX9_judge 137 = .ok (.iload_n 2, 1) := by decide +kernel
theorem dX9_judge_138 : decode cX9_judge 138 = .ok (.invokevirtual 344, 3) := by decide +kernel
theorem dX9_judge_141 : decode cX9_judge 141 = .ok (.ifCond .ge 7, 3) := by decide +kernel
theorem dX9_judge_144 : decode cX9_judge 144 = .ok (.iconst 0, 1) := by decide +kernel
theorem dX9_judge_145 : decode cX9_judge 145 = .ok (.goto 5, 3) := by decide +kernel
theorem dX9_judge_148 : decode cX9_judge 148 = .ok (.bipush 20, 2) := by decide +kernel
theorem dX9_judge_150 : decode cX9_judge 150 = .ok (.ireturn, 1) := by decide +kernel
theorem dX9_isShelf_0 : decode cX9_isShelf 0 = .ok (.iload_n 0, 1) := by decide +kernel
theorem dX9_isShelf_1 : decode cX9_isShelf 1 = .ok (.iconst 0, 1) := by decide +kernel
theorem dX9_isShelf_2 : decode cX9_isShelf 2 = .ok (.iconst 3, 1) := by decide +kernel
theorem dX9_isShelf_3 : decode cX9_isShelf 3 = .ok (.invokestatic 93, 3) := by decide +kernel
theorem dX9_isShelf_6 : decode cX9_isShelf 6 = .ok (.ireturn, 1) := by decide +kernel
theorem dX9_sheet_0 : decode cX9_sheet 0 = .ok (.iload_n 1, 1) := by decide +kernel
theorem dX9_sheet_1 : decode cX9_sheet 1 = .ok (.invokestatic 125, 3) := by decide +kernel
theorem dX9_sheet_4 : decode cX9_sheet 4 = .ok (.ifCond .eq 22, 3) := by decide +kernel
theorem dX9_sheet_7 : decode cX9_sheet 7 = .ok (.iload_n 2, 1) := by decide +kernel
theorem dX9_sheet_8 : decode cX9_sheet 8 = .ok (.iconst (-1), 1) := by decide +kernel
theorem dX9_sheet_9 : decode cX9_sheet 9 = .ok (.iconst 3, 1) := by decide +kernel
theorem dX9_sheet_10 : decode cX9_sheet 10 = .ok (.invokestatic 93, 3) := by decide +kernel
theorem dX9_sheet_13 : decode cX9_sheet 13 = .ok (.ifCond .eq 13, 3) := by decide +kernel
theorem dX9_sheet_16 : decode cX9_sheet 16 = .ok (.iload_n 2, 1) := by decide +kernel
theorem dX9_sheet_17 : decode cX9_sheet 17 = .ok (.ifCond .lt 11, 3) := by decide +kernel
theorem dX9_sheet_20 : decode cX9_sheet 20 = .ok (.iload_n 3, 1) := by decide +kernel
theorem dX9_sheet_21 : decode cX9_sheet 21 = .ok (.bipush 40, 2) := by decide +kernel
theorem dX9_sheet_23 : decode cX9_sheet 23 = .ok (.if_icmp .le 5, 3) := by decide +kernel
theorem dX9_sheet_26 : decode cX9_sheet 26 = .ok (.iconst (-1), 1) := by decide +kernel
theorem dX9_sheet_27 : decode cX9_sheet 27 = .ok (.ireturn, 1) := by decide +kernel
theorem dX9_sheet_28 : decode cX9_sheet 28 = .ok (.iload_n 2, 1) := by decide +kernel
theorem dX9_sheet_29 : decode cX9_sheet 29 = .ok (.ifCond .lt 10, 3) := by decide +kernel
theorem dX9_sheet_32 : decode cX9_sheet 32 = .ok (.iload_n 3, 1) := by decide +kernel
theorem dX9_sheet_33 : decode cX9_sheet 33 = .ok (.ifCond .ge 6, 3) := by decide +kernel
theorem dX9_sheet_36 : decode cX9_sheet 36 = .ok (.bipush (-14), 2) := by decide +kernel
theorem dX9_sheet_38 : decode cX9_sheet 38 = .ok (.ireturn, 1) := by decide +kernel
theorem dX9_sheet_39 : decode cX9_sheet 39 = .ok (.aload_n 0, 1) := by decide +kernel
theorem dX9_sheet_40 : decode cX9_sheet 40 = .ok (.getfield 61, 3) := by decide +kernel
theorem dX9_sheet_43 : decode cX9_sheet 43 = .ok (.iload_n 1, 1) := by decide +kernel
theorem dX9_sheet_44 : decode cX9_sheet 44 = .ok (.iload_n 2, 1) := by decide +kernel
theorem dX9_sheet_45 : decode cX9_sheet 45 = .ok (.iastore, 1) := by decide +kernel
theorem dX9_sheet_46 : decode cX9_sheet 46 = .ok (.aload_n 0, 1) := by decide +kernel
theorem dX9_sheet_47 : decode cX9_sheet 47 = .ok (.getfield 64, 3) := by decide +kernel
theorem dX9_sheet_50 : decode cX9_sheet 50 = .ok (.iload_n 1, 1) := by decide +kernel
theorem dX9_sheet_51 : decode cX9_sheet 51 = .ok (.iload_n 2, 1) := by decide +kernel
theorem dX9_sheet_52 : decode cX9_sheet 52 = .ok (.ifCond .ge 7, 3) := by decide +kernel
theorem dX9_sheet_55 : decode cX9_sheet 55 = .ok (.iconst 0, 1) := by decide +kernel
theorem dX9_sheet_56 : decode cX9_sheet 56 = .ok (.goto 4, 3) := by decide +kernel
theorem dX9_sheet_59 : decode cX9_sheet 59 = .ok (.iload_n 3, 1) := by decide +kernel
theorem dX9_sheet_60 : decode cX9_sheet 60 = .ok (.iastore, 1) := by decide +kernel
theorem dX9_sheet_61 : decode cX9_sheet 61 = .ok (.iconst 0, 1) := by decide +kernel
theorem dX9_sheet_62 : decode cX9_sheet 62 = .ok (.istore 4, 2) := by decide +kernel
theorem dX9_sheet_64 : decode cX9_sheet 64 = .ok (.iload 4, 2) := by decide +kernel
theorem dX9_sheet_66 : decode cX9_sheet 66 = .ok (.bipush 40, 2) := by decide +kernel
theorem dX9_sheet_68 : decode cX9_sheet 68 = .ok (.if_icmp .ge 22, 3) := by decide +kernel
theorem dX9_sheet_71 : decode cX9_sheet 71 = .ok (.aload_n 0, 1) := by decide +kernel
theorem dX9_sheet_72 : decode cX9_sheet 72 = .ok (.getfield 67, 3) := by decide +kernel
theorem dX9_sheet_75 : decode cX9_sheet 75 = .ok (.bipush 40, 2) := by decide +kernel
theorem dX9_sheet_77 : decode cX9_sheet 77 = .ok (.iload_n 1, 1) := by decide +kernel
theorem dX9_sheet_78 : decode cX9_sheet 78 = .ok (.imul, 1) := by decide +kernel
theorem dX9_sheet_79 : decode cX9_sheet 79 = .ok (.iload 4, 2) := by decide +kernel
theorem dX9_sheet_81 : decode cX9_sheet 81 = .ok (.iadd, 1) := by decide +kernel
theorem dX9_sheet_82 : decode cX9_sheet 82 = .ok (.lconst 0, 1) := by decide +kernel
theorem dX9_sheet_83 : decode cX9_sheet 83 = .ok (.lastore, 1) := by decide +kernel
theorem dX9_sheet_84 : decode cX9_sheet 84 = .ok (.iinc 4 1, 3) := by decide +kernel
theorem dX9_sheet_87 : decode cX9_sheet 87 = .ok (.goto (-23), 3) := by decide +kernel
theorem dX9_sheet_90 : decode cX9_sheet 90 = .ok (.iconst 1, 1) := by decide +kernel
theorem dX9_sheet_91 : decode cX9_sheet 91 = .ok (.ireturn, 1) := by decide +kernel
theorem dX9_put_0 : decode cX9_put 0 = .ok (.iload_n 1, 1) := by decide +kernel
theorem dX9_put_1 : decode cX9_put 1 = .ok (.invokestatic 125, 3) := by decide +kernel
theorem dX9_put_4 : decode cX9_put 4 = .ok (.ifCond .ne 5, 3) := by decide +kernel
theorem dX9_put_7 : decode cX9_put 7 = .ok (.iconst (-1), 1) := by decide +kernel
theorem dX9_put_8 : decode cX9_put 8 = .ok (.ireturn, 1) := by decide +kernel
theorem dX9_put_9 : decode cX9_put 9 = .ok (.aload_n 0, 1) := by decide +kernel
theorem dX9_put_10 : decode cX9_put 10 = .ok (.getfield 61, 3) := by decide +kernel
theorem dX9_put_13 : decode cX9_put 13 = .ok (.iload_n 1, 1) := by decide +kernel
theorem dX9_put_14 : decode cX9_put 14 = .ok (.iaload, 1) := by decide +kernel
theorem dX9_put_15 : decode cX9_put 15 = .ok (.ifCond .ge 6, 3) := by decide +kernel
theorem dX9_put_18 : decode cX9_put 18 = .ok (.bipush (-11), 2) := by decide +kernel
theorem dX9_put_20 : decode cX9_put 20 = .ok (.ireturn, 1) := by decide +kernel
theorem dX9_put_21 : decode cX9_put 21 = .ok (.iload_n 2, 1) := by decide +kernel
theorem dX9_put_22 : decode cX9_put 22 = .ok (.iconst 0, 1) := by decide +kernel
theorem dX9_put_23 : decode cX9_put 23 = .ok (.aload_n 0, 1) := by decide +kernel
theorem dX9_put_24 : decode cX9_put 24 = .ok (.getfield 64, 3) := by decide +kernel
theorem dX9_put_27 : decode cX9_put 27 = .ok (.iload_n 1, 1) := by decide +kernel
theorem dX9_put_28 : decode cX9_put 28 = .ok (.iaload, 1) := by decide +kernel
theorem dX9_put_29 : decode cX9_put 29 = .ok (.iconst 1, 1) := by decide +kernel
theorem dX9_put_30 : decode cX9_put 30 = .ok (.isub, 1) := by decide +kernel
theorem dX9_put_31 : decode cX9_put 31 = .ok (.invokestatic 93, 3) := by decide +kernel
theorem dX9_put_34 : decode cX9_put 34 = .ok (.ifCond .ne 6, 3) := by decide +kernel
theorem dX9_put_37 : decode cX9_put 37 = .ok (.bipush (-12), 2) := by decide +kernel
theorem dX9_put_39 : decode cX9_put 39 = .ok (.ireturn, 1) := by decide +kernel
theorem dX9_put_40 : decode cX9_put 40 = .ok (.aload_n 0, 1) := by decide +kernel
theorem dX9_put_41 : decode cX9_put 41 = .ok (.getfield 67, 3) := by decide +kernel
theorem dX9_put_44 : decode cX9_put 44 = .ok (.bipush 40, 2) := by decide +kernel
theorem dX9_put_46 : decode cX9_put 46 = .ok (.iload_n 1, 1) := by decide +kernel
theorem dX9_put_47 : decode cX9_put 47 = .ok (.imul, 1) := by decide +kernel
theorem dX9_put_48 : decode cX9_put 48 = .ok (.iload_n 2, 1) := by decide +kernel
theorem dX9_put_49 : decode cX9_put 49 = .ok (.iadd, 1) := by decide +kernel
theorem dX9_put_50 : decode cX9_put 50 = .ok (.aload_n 0, 1) := by decide +kernel
theorem dX9_put_51 : decode cX9_put 51 = .ok (.getfield 61, 3) := by decide +kernel
theorem dX9_put_54 : decode cX9_put 54 = .ok (.iload_n 1, 1) := by decide +kernel
theorem dX9_put_55 : decode cX9_put 55 = .ok (.iaload, 1) := by decide +kernel
theorem dX9_put_56 : decode cX9_put 56 = .ok (.ifCond .ne 9, 3) := by decide +kernel
theorem dX9_put_59 : decode cX9_put 59 = .ok (.iload_n 3, 1) := by decide +kernel
theorem dX9_put_60 : decode cX9_put 60 = .ok (.i2b, 1) := by decide +kernel
theorem dX9_put_61 : decode cX9_put 61 = .ok (.i2l, 1) := by decide +kernel
theorem dX9_put_62 : decode cX9_put 62 = .ok (.goto 21, 3) := by decide +kernel
theorem dX9_put_65 : decode cX9_put 65 = .ok (.aload_n 0, 1) := by decide +kernel
theorem dX9_put_66 : decode cX9_put 66 = .ok (.getfield 61, 3) := by decide +kernel
theorem dX9_put_69 : decode cX9_put 69 = .ok (.iload_n 1, 1) := by decide +kernel
theorem dX9_put_70 : decode cX9_put 70 = .ok (.iaload, 1) := by decide +kernel
theorem dX9_put_71 : decode cX9_put 71 = .ok (.iconst 1, 1) := by decide +kernel
theorem dX9_put_72 : decode cX9_put 72 = .ok (.if_icmp .ne 9, 3) := by decide +kernel
theorem dX9_put_75 : decode cX9_put 75 = .ok (.iload_n 3, 1) := by decide +kernel
theorem dX9_put_76 : decode cX9_put 76 = .ok (.i2s, 1) := by decide +kernel
theorem dX9_put_77 : decode cX9_put 77 = .ok (.i2l, 1) := by decide +kernel
theorem dX9_put_78 : decode cX9_put 78 = .ok (.goto 5, 3) := by decide +kernel
theorem dX9_put_81 : decode cX9_put 81 = .ok (.iload_n 3, 1) := by decide +kernel
theorem dX9_put_82 : decode cX9_put 82 = .ok (.i2l, 1) := by decide +kernel
theorem dX9_put_83 : decode cX9_put 83 = .ok (.lastore, 1) := by decide +kernel
theorem dX9_put_84 : decode cX9_put 84 = .ok (.iconst 1, 1) := by decide +kernel
theorem dX9_put_85 : decode cX9_put 85 = .ok (.ireturn, 1) := by decide +kernel
theorem dX9_lacksSort_0 : decode cX9_lacksSort 0 = .ok (.aload_n 0, 1) := by decide +kernel
theorem dX9_lacksSort_1 : decode cX9_lacksSort 1 = .ok (.getfield 61, 3) := by decide +kernel
theorem dX9_lacksSort_4 : decode cX9_lacksSort 4 = .ok (.iload_n 1, 1) := by decide +kernel
theorem dX9_lacksSort_5 : decode cX9_lacksSort 5 = .ok (.iaload, 1) := by decide +kernel
theorem dX9_lacksSort_6 : decode cX9_lacksSort 6 = .ok (.ifCond .ge 8, 3) := by decide +kernel
theorem dX9_lacksSort_9 : decode cX9_lacksSort 9 = .ok (.bipush (-11), 2) := by decide +kernel
theorem dX9_lacksSort_11 : decode cX9_lacksSort 11 = .ok (.goto 19, 3) := by decide +kernel
theorem dX9_lacksSort_14 : decode cX9_lacksSort 14 = .ok (.aload_n 0, 1) := by decide +kernel
theorem dX9_lacksSort_15 : decode cX9_lacksSort 15 = .ok (.getfield 61, 3) := by decide +kernel
theorem dX9_lacksSort_18 : decode cX9_lacksSort 18 = .ok (.iload_n 1, 1) := by decide +kernel
theorem dX9_lacksSort_19 : decode cX9_lacksSort 19 = .ok (.iaload, 1) := by decide +kernel
theorem dX9_lacksSort_20 : decode cX9_lacksSort 20 = .ok (.iload_n 2, 1) := by decide +kernel
theorem dX9_lacksSort_21 : decode cX9_lacksSort 21 = .ok (.if_icmp .eq 8, 3) := by decide +kernel
theorem dX9_lacksSort_24 : decode cX9_lacksSort 24 = .ok (.bipush (-13), 2) := by decide +kernel
theorem dX9_lacksSort_26 : decode cX9_lacksSort 26 = .ok (.goto 4, 3) := by decide +kernel
theorem dX9_lacksSort_29 : decode cX9_lacksSort 29 = .ok (.iconst 0, 1) := by decide +kernel
theorem dX9_lacksSort_30 : decode cX9_lacksSort 30 = .ok (.ireturn, 1) := by decide +kernel
theorem dX9_item_0 : decode cX9_item 0 = .ok (.iload_n 1, 1) := by decide +kernel
theorem dX9_item_1 : decode cX9_item 1 = .ok (.invokestatic 125, 3) := by decide +kernel
theorem dX9_item_4 : decode cX9_item 4 = .ok (.ifCond .eq 12, 3) := by decide +kernel
theorem dX9_item_7 : decode cX9_item 7 = .ok (.iload_n 2, 1) := by decide +kernel
theorem dX9_item_8 : decode cX9_item 8 = .ok (.iconst 0, 1) := by decide +kernel
theorem dX9_item_9 : decode cX9_item 9 = .ok (.iconst 3, 1) := by decide +kernel
theorem dX9_item_10 : decode cX9_item 10 = .ok (.invokestatic 93, 3) := by decide +kernel
theorem dX9_item_13 : decode cX9_item 13 = .ok (.ifCond .ne 5, 3) := by decide +kernel
theorem dX9_item_16 : decode cX9_item 16 = .ok (.iconst (-1), 1) := by decide +kernel
theorem dX9_item_17 : decode cX9_item 17 = .ok (.ireturn, 1) := by decide +kernel
theorem dX9_item_18 : decode cX9_item 18 = .ok (.aload_n 0, 1) := by decide +kernel
theorem dX9_item_19 : decode cX9_item 19 = .ok (.iload_n 1, 1) := by decide +kernel
theorem dX9_item_20 : decode cX9_item 20 = .ok (.iload_n 2, 1) := by decide +kernel
theorem dX9_item_21 : decode cX9_item 21 = .ok (.invokevirtual 128, 3) := by decide +kernel
theorem dX9_item_24 : decode cX9_item 24 = .ok (.istore 4, 2) := by decide +kernel
theorem dX9_item_26 : decode cX9_item 26 = .ok (.iload 4, 2) := by decide +kernel
theorem dX9_item_28 : decode cX9_item 28 = .ok (.ifCond .eq 6, 3) := by decide +kernel
theorem dX9_item_31 : decode cX9_item 31 = .ok (.iload 4, 2) := by decide +kernel
theorem dX9_item_33 : decode cX9_item 33 = .ok (.ireturn, 1) := by decide +kernel
theorem dX9_item_34 : decode cX9_item 34 = .ok (.iload_n 3, 1) := by decide +kernel
theorem dX9_item_35 : decode cX9_item 35 = .ok (.iconst 0, 1) := by decide +kernel
theorem dX9_item_36 : decode cX9_item 36 = .ok (.aload_n 0, 1) := by decide +kernel
theorem dX9_item_37 : decode cX9_item 37 = .ok (.getfield 64, 3) := by decide +kernel
theorem dX9_item_40 : decode cX9_item 40 = .ok (.iload_n 1, 1) := by decide +kernel
theorem dX9_item_41 : decode cX9_item 41 = .ok (.iaload, 1) := by decide +kernel
theorem dX9_item_42 : decode cX9_item 42 = .ok (.iconst 1, 1) := by decide +kernel
theorem dX9_item_43 : decode cX9_item 43 = .ok (.isub, 1) := by decide +kernel
theorem dX9_item_44 : decode cX9_item 44 = .ok (.invokestatic 93, 3) := by decide +kernel
theorem dX9_item_47 : decode cX9_item 47 = .ok (.ifCond .eq 18, 3) := by decide +kernel
theorem dX9_item_50 : decode cX9_item 50 = .ok (.aload_n 0, 1) := by decide +kernel
theorem dX9_item_51 : decode cX9_item 51 = .ok (.getfield 67, 3) := by decide +kernel
theorem dX9_item_54 : decode cX9_item 54 = .ok (.bipush 40, 2) := by decide +kernel
theorem dX9_item_56 : decode cX9_item 56 = .ok (.iload_n 1, 1) := by decide +kernel
theorem dX9_item_57 : decode cX9_item 57 = .ok (.imul, 1) := by decide +kernel
theorem dX9_item_58 : decode cX9_item 58 = .ok (.iload_n 3, 1) := by decide +kernel
theorem dX9_item_59 : decode cX9_item 59 = .ok (.iadd, 1) := by decide +kernel
theorem dX9_item_60 : decode cX9_item 60 = .ok (.laload, 1) := by decide +kernel
theorem dX9_item_61 : decode cX9_item 61 = .ok (.l2i, 1) := by decide +kernel
theorem dX9_item_62 : decode cX9_item 62 = .ok (.goto 5, 3) := by decide +kernel
theorem dX9_item_65 : decode cX9_item 65 = .ok (.bipush (-12), 2) := by decide +kernel
theorem dX9_item_67 : decode cX9_item 67 = .ok (.ireturn, 1) := by decide +kernel
theorem dX9_register_0 : decode cX9_register 0 = .ok (.aload_n 0, 1) := by decide +kernel
theorem dX9_register_1 : decode cX9_register 1 = .ok (.iload_n 1, 1) := by decide +kernel
theorem dX9_register_2 : decode cX9_register 2 = .ok (.invokevirtual 100, 3) := by decide +kernel
theorem dX9_register_5 : decode cX9_register 5 = .ok (.ifCond .eq 21, 3) := by decide +kernel
theorem dX9_register_8 : decode cX9_register 8 = .ok (.iload_n 2, 1) := by decide +kernel
theorem dX9_register_9 : decode cX9_register 9 = .ok (.invokestatic 125, 3) := by decide +kernel
theorem dX9_register_12 : decode cX9_register 12 = .ok (.ifCond .eq 14, 3) := by decide +kernel
theorem dX9_register_15 : decode cX9_register 15 = .ok (.iload 4, 2) := by decide +kernel
theorem dX9_register_17 : decode cX9_register 17 = .ok (.iconst 0, 1) := by decide +kernel
theorem dX9_register_18 : decode cX9_register 18 = .ok (.bipush 10, 2) := by decide +kernel
theorem dX9_register_20 : decode cX9_register 20 = .ok (.invokestatic 93, 3) := by decide +kernel
theorem dX9_register_23 : decode cX9_register 23 = .ok (.ifCond .ne 5, 3) := by decide +kernel
theorem dX9_register_26 : decode cX9_register 26 = .ok (.iconst (-1), 1) := by decide +kernel
theorem dX9_register_27 : decode cX9_register 27 = .ok (.ireturn, 1) := by decide +kernel
theorem dX9_register_28 : decode cX9_register 28 = .ok (.aload_n 0, 1) := by decide +kernel
theorem dX9_register_29 : decode cX9_register 29 = .ok (.iload_n 2, 1) := by decide +kernel
theorem dX9_register_30 : decode cX9_register 30 = .ok (.iconst 0, 1) := by decide +kernel
theorem dX9_register_31 : decode cX9_register 31 = .ok (.invokevirtual 128, 3) := by decide +kernel
theorem dX9_register_34 : decode cX9_register 34 = .ok (.istore 5, 2) := by decide +kernel
theorem dX9_register_36 : decode cX9_register 36 = .ok (.iload 5, 2) := by decide +kernel
theorem dX9_register_38 : decode cX9_register 38 = .ok (.ifCond .eq 6, 3) := by decide +kernel
theorem dX9_register_41 : decode cX9_register 41 = .ok (.iload 5, 2) := by decide +kernel
theorem dX9_register_43 : decode cX9_register 43 = .ok (.ireturn, 1) := by decide +kernel
theorem dX9_register_44 : decode cX9_register 44 = .ok (.iconst 0, 1) := by decide +kernel
theorem dX9_register_45 : decode cX9_register 45 = .ok (.istore 6, 2) := by decide +kernel
theorem dX9_register_47 : decode cX9_register 47 = .ok (.iconst 0, 1) := by decide +kernel
theorem dX9_register_48 : decode cX9_register 48 = .ok (.istore 7, 2) := by decide +kernel
theorem dX9_register_50 : decode cX9_register 50 = .ok (.iload 7, 2) := by decide +kernel
theorem dX9_register_52 : decode cX9_register 52 = .ok (.iload 4, 2) := by decide +kernel
theorem dX9_register_54 : decode cX9_register 54 = .ok (.if_icmp .ge 99, 3) := by decide +kernel
theorem dX9_register_57 : decode cX9_register 57 = .ok (.iload_n 3, 1) := by decide +kernel
theorem dX9_register_58 : decode cX9_register 58 = .ok (.ifCond .lt 20, 3) := by decide +kernel
theorem dX9_register_61 : decode cX9_register 61 = .ok (.iload_n 3, 1) := by decide +kernel
theorem dX9_register_62 : decode cX9_register 62 = .ok (.aload_n 0, 1) := by decide +kernel
theorem dX9_register_63 : decode cX9_register 63 = .ok (.getfield 64, 3) := by decide +kernel
theorem dX9_register_66 : decode cX9_register 66 = .ok (.iload_n 2, 1) := by decide +kernel
theorem dX9_register_67 : decode cX9_register 67 = .ok (.iaload, 1) := by decide +kernel
theorem dX9_register_68 : decode cX9_register 68 = .ok (.iconst 2, 1) := by decide +kernel
theorem dX9_register_69 : decode cX9_register 69 = .ok (.isub, 1) := by decide +kernel
theorem dX9_register_70 : decode cX9_register 70 = .ok (.iconst 2, 1) := by decide +kernel
theorem dX9_register_71 : decode cX9_register 71 = .ok (.iload 7, 2) := by decide +kernel
theorem dX9_register_73 : decode cX9_register 73 = .ok (.imul, 1) := by decide +kernel
theorem dX9_register_74 : decode cX9_register 74 = .ok (.isub, 1) := by decide +kernel
theorem dX9_register_75 : decode cX9_register 75 = .ok (.if_icmp .le 6, 3) := by decide +kernel
theorem dX9_register_78 : decode cX9_register 78 = .ok (.bipush (-12), 2) := by decide +kernel
theorem dX9_register_80 : decode cX9_register 80 = .ok (.ireturn, 1) := by decide +kernel
theorem dX9_register_81 : decode cX9_register 81 = .ok (.aload_n 0, 1) := by decide +kernel
theorem dX9_register_82 : decode cX9_register 82 = .ok (.getfield 67, 3) := by decide +kernel
theorem dX9_register_85 : decode cX9_register 85 = .ok (.bipush 40, 2) := by decide +kernel
theorem dX9_register_87 : decode cX9_register 87 = .ok (.iload_n 2, 1) := by decide +kernel
theorem dX9_register_88 : decode cX9_register 88 = .ok (.imul, 1) := by decide +kernel
theorem dX9_register_89 : decode cX9_register 89 = .ok (.iload_n 3, 1) := by decide +kernel
theorem dX9_register_90 : decode cX9_register 90 = .ok (.iadd, 1) := by decide +kernel
theorem dX9_register_91 : decode cX9_register 91 = .ok (.iconst 2, 1) := by decide +kernel
theorem dX9_register_92 : decode cX9_register 92 = .ok (.iload 7, 2) := by decide +kernel
theorem dX9_register_94 : decode cX9_register 94 = .ok (.imul, 1) := by decide +kernel
theorem dX9_register_95 : decode cX9_register 95 = .ok (.iadd, 1) := by decide +kernel
theorem dX9_register_96 : decode cX9_register 96 = .ok (.laload, 1) := by decide +kernel
theorem dX9_register_97 : decode cX9_register 97 = .ok (.l2i, 1) := by decide +kernel
theorem dX9_register_98 : decode cX9_register 98 = .ok (.istore 8, 2) := by decide +kernel
theorem dX9_register_100 : decode cX9_register 100 = .ok (.aload_n 0, 1) := by decide +kernel
theorem dX9_register_101 : decode cX9_register 101 = .ok (.getfield 67, 3) := by decide +kernel
theorem dX9_register_104 : decode cX9_register 104 = .ok (.bipush 40, 2) := by decide +kernel
theorem dX9_register_106 : decode cX9_register 106 = .ok (.iload_n 2, 1) := by decide +kernel
theorem dX9_register_107 : decode cX9_register 107 = .ok (.imul, 1) := by decide +kernel
theorem dX9_register_108 : decode cX9_register 108 = .ok (.iload_n 3, 1) := by decide +kernel
theorem dX9_register_109 : decode cX9_register 109 = .ok (.iadd, 1) := by decide +kernel
theorem dX9_register_110 : decode cX9_register 110 = .ok (.iconst 2, 1) := by decide +kernel
theorem dX9_register_111 : decode cX9_register 111 = .ok (.iload 7, 2) := by decide +kernel
theorem dX9_register_113 : decode cX9_register 113 = .ok (.imul, 1) := by decide +kernel
theorem dX9_register_114 : decode cX9_register 114 = .ok (.iadd, 1) := by decide +kernel
theorem dX9_register_115 : decode cX9_register 115 = .ok (.iconst 1, 1) := by decide +kernel
theorem dX9_register_116 : decode cX9_register 116 = .ok (.iadd, 1) := by decide +kernel
theorem dX9_register_117 : decode cX9_register 117 = .ok (.laload, 1) := by decide +kernel
theorem dX9_register_118 : decode cX9_register 118 = .ok (.l2i, 1) := by decide +kernel
theorem dX9_register_119 : decode cX9_register 119 = .ok (.istore 9, 2) := by decide +kernel
theorem dX9_register_121 : decode cX9_register 121 = .ok (.iload 6, 2) := by decide +kernel
theorem dX9_register_123 : decode cX9_register 123 = .ok (.aload_n 0, 1) := by decide +kernel
theorem dX9_register_124 : decode cX9_register 124 = .ok (.iload_n 1, 1) := by decide +kernel
theorem dX9_register_125 : decode cX9_register 125 = .ok (.iconst 3, 1) := by decide +kernel
theorem dX9_register_126 : decode cX9_register 126 = .ok (.iload 8, 2) := by decide +kernel
theorem dX9_register_128 : decode cX9_register 128 = .ok (.iload 9, 2) := by decide +kernel
theorem dX9_register_130 : decode cX9_register 130 = .ok (.bipush 10, 2) := by decide +kernel
theorem dX9_register_132 : decode cX9_register 132 = .ok (.iconst 0, 1) := by decide +kernel
theorem dX9_register_133 : decode cX9_register 133 = .ok (.invokevirtual 347, 3) := by decide +kernel
theorem dX9_register_136 : decode cX9_register 136 = .ok (.ifCond .lt 7, 3) := by decide +kernel
theorem dX9_register_139 : decode cX9_register 139 = .ok (.iconst 1, 1) := by decide +kernel
theorem dX9_register_140 : decode cX9_register 140 = .ok (.goto 4, 3) := by decide +kernel
theorem dX9_register_143 : decode cX9_register 143 = .ok (.iconst 0, 1) := by decide +kernel
theorem dX9_register_144 : decode cX9_register 144 = .ok (.iadd, 1) := by decide +kernel
theorem dX9_register_145 : decode cX9_register 145 = .ok (.istore 6, 2) := by decide +kernel
theorem dX9_register_147 : decode cX9_register 147 = .ok (.iinc 7 1, 3) := by decide +kernel
theorem dX9_register_150 : decode cX9_register 150 = .ok (.goto (-100), 3) := by decide +kernel
theorem dX9_register_153 : decode cX9_register 153 = .ok (.iload 6, 2) := by decide +kernel
theorem dX9_register_155 : decode cX9_register 155 = .ok (.ireturn, 1) := by decide +kernel
theorem dX9_isThing_0 : decode cX9_isThing 0 = .ok (.iload_n 1, 1) := by decide +kernel
theorem dX9_isThing_1 : decode cX9_isThing 1 = .ok (.ifCond .ne 11, 3) := by decide +kernel
theorem dX9_isThing_4 : decode cX9_isThing 4 = .ok (.aload_n 0, 1) := by decide +kernel
theorem dX9_isThing_5 : decode cX9_isThing 5 = .ok (.iload_n 2, 1) := by decide +kernel
theorem dX9_isThing_6 : decode cX9_isThing 6 = .ok (.invokevirtual 114, 3) := by decide +kernel
theorem dX9_isThing_9 : decode cX9_isThing 9 = .ok (.goto 38, 3) := by decide +kernel
theorem dX9_isThing_12 : decode cX9_isThing 12 = .ok (.iload_n 1, 1) := by decide +kernel
theorem dX9_isThing_13 : decode cX9_isThing 13 = .ok (.iconst 1, 1) := by decide +kernel
theorem dX9_isThing_14 : decode cX9_isThing 14 = .ok (.if_icmp .ne 11, 3) := by decide +kernel
theorem dX9_isThing_17 : decode cX9_isThing 17 = .ok (.aload_n 0, 1) := by decide +kernel
theorem dX9_isThing_18 : decode cX9_isThing 18 = .ok (.iload_n 2, 1) := by decide +kernel
theorem dX9_isThing_19 : decode cX9_isThing 19 = .ok (.invokevirtual 100, 3) := by decide +kernel
theorem dX9_isThing_22 : decode cX9_isThing 22 = .ok (.goto 25, 3) := by decide +kernel
theorem dX9_isThing_25 : decode cX9_isThing 25 = .ok (.iload_n 1, 1) := by decide +kernel
theorem dX9_isThing_26 : decode cX9_isThing 26 = .ok (.iconst 2, 1) := by decide +kernel
theorem dX9_isThing_27 : decode cX9_isThing 27 = .ok (.if_icmp .ne 10, 3) := by decide +kernel
theorem dX9_isThing_30 : decode cX9_isThing 30 = .ok (.iload_n 2, 1) := by decide +kernel
theorem dX9_isThing_31 : decode cX9_isThing 31 = .ok (.invokestatic 125, 3) := by decide +kernel
theorem dX9_isThing_34 : decode cX9_isThing 34 = .ok (.goto 13, 3) := by decide +kernel
theorem dX9_isThing_37 : decode cX9_isThing 37 = .ok (.iload_n 1, 1) := by decide +kernel
theorem dX9_isThing_38 : decode cX9_isThing 38 = .ok (.iconst 3, 1) := by decide +kernel
theorem dX9_isThing_39 : decode cX9_isThing 39 = .ok (.if_icmp .ne 7, 3) := by decide +kernel
theorem dX9_isThing_42 : decode cX9_isThing 42 = .ok (.iconst 1, 1) := by decide +kernel
theorem dX9_isThing_43 : decode cX9_isThing 43 = .ok (.goto 4, 3) := by decide +kernel
theorem dX9_isThing_46 : decode cX9_isThing 46 = .ok (.iconst 0, 1) := by decide +kernel
theorem dX9_isThing_47 : decode cX9_isThing 47 = .ok (.ireturn, 1) := by decide +kernel
theorem dX9_shelf_0 : decode cX9_shelf 0 = .ok (.iload_n 1, 1) := by decide +kernel
theorem dX9_shelf_1 : decode cX9_shelf 1 = .ok (.invokestatic 125, 3) := by decide +kernel
theorem dX9_shelf_4 : decode cX9_shelf 4 = .ok (.ifCond .eq 12, 3) := by decide +kernel
theorem dX9_shelf_7 : decode cX9_shelf 7 = .ok (.aload_n 0, 1) := by decide +kernel
theorem dX9_shelf_8 : decode cX9_shelf 8 = .ok (.iload_n 2, 1) := by decide +kernel
theorem dX9_shelf_9 : decode cX9_shelf 9 = .ok (.iload_n 3, 1) := by decide +kernel
theorem dX9_shelf_10 : decode cX9_shelf 10 = .ok (.invokevirtual 350, 3) := by decide +kernel
theorem dX9_shelf_13 : decode cX9_shelf 13 = .ok (.ifCond .ne 5, 3) := by decide +kernel
theorem dX9_shelf_16 : decode cX9_shelf 16 = .ok (.iconst (-1), 1) := by decide +kernel
theorem dX9_shelf_17 : decode cX9_shelf 17 = .ok (.ireturn, 1) := by decide +kernel
theorem dX9_shelf_18 : decode cX9_shelf 18 = .ok (.aload_n 0, 1) := by decide +kernel
theorem dX9_shelf_19 : decode cX9_shelf 19 = .ok (.getfield 71, 3) := by decide +kernel
theorem dX9_shelf_22 : decode cX9_shelf 22 = .ok (.iload_n 1, 1) := by decide +kernel
theorem dX9_shelf_23 : decode cX9_shelf 23 = .ok (.iload_n 2, 1) := by decide +kernel
theorem dX9_shelf_24 : decode cX9_shelf 24 = .ok (.iconst 3, 1) := by decide +kernel
theorem dX9_shelf_25 : decode cX9_shelf 25 = .ok (.if_icmp .eq 17, 3) := by decide +kernel
theorem dX9_shelf_28 : decode cX9_shelf 28 = .ok (.iload_n 2, 1) := by decide +kernel
theorem dX9_shelf_29 : decode cX9_shelf 29 = .ok (.iconst 2, 1) := by decide +kernel
theorem dX9_shelf_30 : decode cX9_shelf 30 = .ok (.if_icmp .ne 16, 3) := by decide +kernel
theorem dX9_shelf_33 : decode cX9_shelf 33 = .ok (.aload_n 0, 1) := by decide +kernel
theorem dX9_shelf_34 : decode cX9_shelf 34 = .ok (.getfield 61, 3) := by decide +kernel
theorem dX9_shelf_37 : decode cX9_shelf 37 = .ok (.iload_n 3, 1) := by decide +kernel
theorem dX9_shelf_38 : decode cX9_shelf 38 = .ok (.iaload, 1) := by decide +kernel
theorem dX9_shelf_39 : decode cX9_shelf 39 = .ok (.ifCond .ge 7, 3) := by decide +kernel
theorem dX9_shelf_42 : decode cX9_shelf 42 = .ok (.iconst (-1), 1) := by decide +kernel
theorem dX9_shelf_43 : decode cX9_shelf 43 = .ok (.goto 4, 3) := by decide +kernel
theorem dX9_shelf_46 : decode cX9_shelf 46 = .ok (.iload_n 2, 1) := by decide +kernel
theorem dX9_shelf_47 : decode cX9_shelf 47 = .ok (.iastore, 1) := by decide +kernel
theorem dX9_shelf_48 : decode cX9_shelf 48 = .ok (.aload_n 0, 1) := by decide +kernel
theorem dX9_shelf_49 : decode cX9_shelf 49 = .ok (.getfield 74, 3) := by decide +kernel
theorem dX9_shelf_52 : decode cX9_shelf 52 = .ok (.iload_n 1, 1) := by decide +kernel
theorem dX9_shelf_53 : decode cX9_shelf 53 = .ok (.iload_n 2, 1) := by decide +kernel
theorem dX9_shelf_54 : decode cX9_shelf 54 = .ok (.iconst 2, 1) := by decide +kernel
theorem dX9_shelf_55 : decode cX9_shelf 55 = .ok (.if_icmp .ne 12, 3) := by decide +kernel
theorem dX9_shelf_58 : decode cX9_shelf 58 = .ok (.aload_n 0, 1) := by decide +kernel
theorem dX9_shelf_59 : decode cX9_shelf 59 = .ok (.getfield 61, 3) := by decide +kernel
theorem dX9_shelf_62 : decode cX9_shelf 62 = .ok (.iload_n 3, 1) := by decide +kernel
theorem dX9_shelf_63 : decode cX9_shelf 63 = .ok (.iaload, 1) := by decide +kernel
theorem dX9_shelf_64 : decode cX9_shelf 64 = .ok (.goto 4, 3) := by decide +kernel
theorem dX9_shelf_67 : decode cX9_shelf 67 = .ok (.iload_n 3, 1) := by decide +kernel
theorem dX9_shelf_68 : decode cX9_shelf 68 = .ok (.iastore, 1) := by decide +kernel
theorem dX9_shelf_69 : decode cX9_shelf 69 = .ok (.aload_n 0, 1) := by decide +kernel
theorem dX9_shelf_70 : decode cX9_shelf 70 = .ok (.getfield 77, 3) := by decide +kernel
theorem dX9_shelf_73 : decode cX9_shelf 73 = .ok (.iload_n 1, 1) := by decide +kernel
theorem dX9_shelf_74 : decode cX9_shelf 74 = .ok (.iload_n 2, 1) := by decide +kernel
theorem dX9_shelf_75 : decode cX9_shelf 75 = .ok (.iconst 2, 1) := by decide +kernel
theorem dX9_shelf_76 : decode cX9_shelf 76 = .ok (.if_icmp .ne 12, 3) := by decide +kernel
theorem dX9_shelf_79 : decode cX9_shelf 79 = .ok (.aload_n 0, 1) := by decide +kernel
theorem dX9_shelf_80 : decode cX9_shelf 80 = .ok (.getfield 64, 3) := by decide +kernel
theorem dX9_shelf_83 : decode cX9_shelf 83 = .ok (.iload_n 3, 1) := by decide +kernel
theorem dX9_shelf_84 : decode cX9_shelf 84 = .ok (.iaload, 1) := by decide +kernel
theorem dX9_shelf_85 : decode cX9_shelf 85 = .ok (.goto 4, 3) := by decide +kernel
theorem dX9_shelf_88 : decode cX9_shelf 88 = .ok (.iconst 0, 1) := by decide +kernel
theorem dX9_shelf_89 : decode cX9_shelf 89 = .ok (.iastore, 1) := by decide +kernel
theorem dX9_shelf_90 : decode cX9_shelf 90 = .ok (.iconst 1, 1) := by decide +kernel
theorem dX9_shelf_91 : decode cX9_shelf 91 = .ok (.ireturn, 1) := by decide +kernel
theorem dX9_kindOn_0 : decode cX9_kindOn 0 = .ok (.aload_n 0, 1) := by decide +kernel
theorem dX9_kindOn_1 : decode cX9_kindOn 1 = .ok (.getfield 71, 3) := by decide +kernel
theorem dX9_kindOn_4 : decode cX9_kindOn 4 = .ok (.iload_n 1, 1) := by decide +kernel
theorem dX9_kindOn_5 : decode cX9_kindOn 5 = .ok (.iaload, 1) := by decide +kernel
theorem dX9_kindOn_6 : decode cX9_kindOn 6 = .ok (.istore_n 2, 1) := by decide +kernel
theorem dX9_kindOn_7 : decode cX9_kindOn 7 = .ok (.iload_n 2, 1) := by decide +kernel
theorem dX9_kindOn_8 : decode cX9_kindOn 8 = .ok (.ifCond .lt 8, 3) := by decide +kernel
theorem dX9_kindOn_11 : decode cX9_kindOn 11 = .ok (.iload_n 2, 1) := by decide +kernel
theorem dX9_kindOn_12 : decode cX9_kindOn 12 = .ok (.iconst 2, 1) := by decide +kernel
theorem dX9_kindOn_13 : decode cX9_kindOn 13 = .ok (.if_icmp .ne 14, 3) := by decide +kernel
theorem dX9_kindOn_16 : decode cX9_kindOn 16 = .ok (.iload_n 2, 1) := by decide +kernel
theorem dX9_kindOn_17 : decode cX9_kindOn 17 = .ok (.ifCond .ge 7, 3) := by decide +kernel
theorem dX9_kindOn_20 : decode cX9_kindOn 20 = .ok (.iconst (-1), 1) := by decide +kernel
theorem dX9_kindOn_21 : decode cX9_kindOn 21 = .ok (.goto 5, 3) := by decide +kernel
theorem dX9_kindOn_24 : decode cX9_kindOn 24 = .ok (.bipush 9, 2) := by decide +kernel
theorem dX9_kindOn_26 : decode cX9_kindOn 26 = .ok (.ireturn, 1) := by decide +kernel
theorem dX9_kindOn_27 : decode cX9_kindOn 27 = .ok (.aload_n 0, 1) := by decide +kernel
theorem dX9_kindOn_28 : decode cX9_kindOn 28 = .ok (.getfield 74, 3) := by decide +kernel
theorem dX9_kindOn_31 : decode cX9_kindOn 31 = .ok (.iload_n 1, 1) := by decide +kernel
theorem dX9_kindOn_32 : decode cX9_kindOn 32 = .ok (.iaload, 1) := by decide +kernel
theorem dX9_kindOn_33 : decode cX9_kindOn 33 = .ok (.istore_n 3, 1) := by decide +kernel
theorem dX9_kindOn_34 : decode cX9_kindOn 34 = .ok (.aload_n 0, 1) := by decide +kernel
theorem dX9_kindOn_35 : decode cX9_kindOn 35 = .ok (.iload_n 2, 1) := by decide +kernel
theorem dX9_kindOn_36 : decode cX9_kindOn 36 = .ok (.iload_n 3, 1) := by decide +kernel
theorem dX9_kindOn_37 : decode cX9_kindOn 37 = .ok (.invokevirtual 350, 3) := by decide +kernel
theorem dX9_kindOn_40 : decode cX9_kindOn 40 = .ok (.ifCond .ne 7, 3) := by decide +kernel
theorem dX9_kindOn_43 : decode cX9_kindOn 43 = .ok (.iconst (-1), 1) := by decide +kernel
theorem dX9_kindOn_44 : decode cX9_kindOn 44 = .ok (.goto 24, 3) := by decide +kernel
theorem dX9_kindOn_47 : decode cX9_kindOn 47 = .ok (.iload_n 2, 1) := by decide +kernel
theorem dX9_kindOn_48 : decode cX9_kindOn 48 = .ok (.iconst 1, 1) := by decide +kernel
theorem dX9_kindOn_49 : decode cX9_kindOn 49 = .ok (.if_icmp .ne 8, 3) := by decide +kernel
theorem dX9_kindOn_52 : decode cX9_kindOn 52 = .ok (.bipush 8, 2) := by decide +kernel
theorem dX9_kindOn_54 : decode cX9_kindOn 54 = .ok (.goto 14, 3) := by decide +kernel
theorem dX9_kindOn_57 : decode cX9_kindOn 57 = .ok (.aload_n 0, 1) := by decide +kernel
theorem dX9_kindOn_58 : decode cX9_kindOn 58 = .ok (.getfield 13, 3) := by decide +kernel
theorem dX9_kindOn_61 : decode cX9_kindOn 61 = .ok (.bipush 6, 2) := by decide +kernel
theorem dX9_kindOn_63 : decode cX9_kindOn 63 = .ok (.iload_n 3, 1) := by decide +kernel
theorem dX9_kindOn_64 : decode cX9_kindOn 64 = .ok (.imul, 1) := by decide +kernel
theorem dX9_kindOn_65 : decode cX9_kindOn 65 = .ok (.iconst 1, 1) := by decide +kernel
theorem dX9_kindOn_66 : decode cX9_kindOn 66 = .ok (.iadd, 1) := by decide +kernel
theorem dX9_kindOn_67 : decode cX9_kindOn 67 = .ok (.iaload, 1) := by decide +kernel
theorem dX9_kindOn_68 : decode cX9_kindOn 68 = .ok (.ireturn, 1) := by decide +kernel
theorem dX9_isUnder_0 : decode cX9_isUnder 0 = .ok (.iload_n 1, 1) := by decide +kernel
theorem dX9_isUnder_1 : decode cX9_isUnder 1 = .ok (.tableswitch 123 0 5 #[39, 51, 67, 89, 123, 106], 39) := by decide +kernel
theorem dX9_isUnder_40 : decode cX9_isUnder 40 = .ok (.iload_n 0, 1) := by decide +kernel
theorem dX9_isUnder_41 : decode cX9_isUnder 41 = .ok (.bipush 8, 2) := by decide +kernel
theorem dX9_isUnder_43 : decode cX9_isUnder 43 = .ok (.if_icmp .ge 7, 3) := by decide +kernel
theorem dX9_isUnder_46 : decode cX9_isUnder 46 = .ok (.iconst 1, 1) := by decide +kernel
theorem dX9_isUnder_47 : decode cX9_isUnder 47 = .ok (.goto 4, 3) := by decide +kernel
theorem dX9_isUnder_50 : decode cX9_isUnder 50 = .ok (.iconst 0, 1) := by decide +kernel
theorem dX9_isUnder_51 : decode cX9_isUnder 51 = .ok (.ireturn, 1) := by decide +kernel
theorem dX9_isUnder_52 : decode cX9_isUnder 52 = .ok (.iload_n 0, 1) := by decide +kernel
theorem dX9_isUnder_53 : decode cX9_isUnder 53 = .ok (.iconst 1, 1) := by decide +kernel
theorem dX9_isUnder_54 : decode cX9_isUnder 54 = .ok (.if_icmp .eq 8, 3) := by decide +kernel
theorem dX9_isUnder_57 : decode cX9_isUnder 57 = .ok (.iload_n 0, 1) := by decide +kernel
theorem dX9_isUnder_58 : decode cX9_isUnder 58 = .ok (.iconst 4, 1) := by decide +kernel
theorem dX9_isUnder_59 : decode cX9_isUnder 59 = .ok (.if_icmp .ne 7, 3) := by decide +kernel
theorem dX9_isUnder_62 : decode cX9_isUnder 62 = .ok (.iconst 1, 1) := by decide +kernel
theorem dX9_isUnder_63 : decode cX9_isUnder 63 = .ok (.goto 4, 3) := by decide +kernel
theorem dX9_isUnder_66 : decode cX9_isUnder 66 = .ok (.iconst 0, 1) := by decide +kernel
theorem dX9_isUnder_67 : decode cX9_isUnder 67 = .ok (.ireturn, 1) := by decide +kernel
theorem dX9_isUnder_68 : decode cX9_isUnder 68 = .ok (.iload_n 0, 1) := by decide +kernel
theorem dX9_isUnder_69 : decode cX9_isUnder 69 = .ok (.iconst 2, 1) := by decide +kernel
theorem dX9_isUnder_70 : decode cX9_isUnder 70 = .ok (.if_icmp .eq 14, 3) := by decide +kernel
theorem dX9_isUnder_73 : decode cX9_isUnder 73 = .ok (.iload_n 0, 1) := by decide +kernel
theorem dX9_isUnder_74 : decode cX9_isUnder 74 = .ok (.iconst 5, 1) := by decide +kernel
theorem dX9_isUnder_75 : decode cX9_isUnder 75 = .ok (.if_icmp .eq 9, 3) := by decide +kernel
theorem dX9_isUnder_78 : decode cX9_isUnder 78 = .ok (.iload_n 0, 1) := by decide +kernel
theorem dX9_isUnder_79 : decode cX9_isUnder 79 = .ok (.bipush 7, 2) := by decide +kernel
theorem dX9_isUnder_81 : decode cX9_isUnder 81 = .ok (.if_icmp .ne 7, 3) := by decide +kernel
theorem dX9_isUnder_84 : decode cX9_isUnder 84 = .ok (.iconst 1, 1) := by decide +kernel
theorem dX9_isUnder_85 : decode cX9_isUnder 85 = .ok (.goto 4, 3) := by decide +kernel
theorem dX9_isUnder_88 : decode cX9_isUnder 88 = .ok (.iconst 0, 1) := by decide +kernel
theorem dX9_isUnder_89 : decode cX9_isUnder 89 = .ok (.ireturn, 1) := by decide +kernel
theorem dX9_isUnder_90 : decode cX9_isUnder 90 = .ok (.iload_n 0, 1) := by decide +kernel
theorem dX9_isUnder_91 : decode cX9_isUnder 91 = .ok (.iconst 3, 1) := by decide +kernel
theorem dX9_isUnder_92 : decode cX9_isUnder 92 = .ok (.if_icmp .eq 9, 3) := by decide +kernel
theorem dX9_isUnder_95 : decode cX9_isUnder 95 = .ok (.iload_n 0, 1) := by decide +kernel
theorem dX9_isUnder_96 : decode cX9_isUnder 96 = .ok (.bipush 6, 2) := by decide +kernel
theorem dX9_isUnder_98 : decode cX9_isUnder 98 = .ok (.if_icmp .ne 7, 3) := by decide +kernel
theorem dX9_isUnder_101 : decode cX9_isUnder 101 = .ok (.iconst 1, 1) := by decide +kernel
theorem dX9_isUnder_102 : decode cX9_isUnder 102 = .ok (.goto 4, 3) := by decide +kernel
theorem dX9_isUnder_105 : decode cX9_isUnder 105 = .ok (.iconst 0, 1) := by decide +kernel
theorem dX9_isUnder_106 : decode cX9_isUnder 106 = .ok (.ireturn, 1) := by decide +kernel
theorem dX9_isUnder_107 : decode cX9_isUnder 107 = .ok (.iload_n 0, 1) := by decide +kernel
theorem dX9_isUnder_108 : decode cX9_isUnder 108 = .ok (.iconst 5, 1) := by decide +kernel
theorem dX9_isUnder_109 : decode cX9_isUnder 109 = .ok (.if_icmp .eq 9, 3) := by decide +kernel
theorem dX9_isUnder_112 : decode cX9_isUnder 112 = .ok (.iload_n 0, 1) := by decide +kernel
theorem dX9_isUnder_113 : decode cX9_isUnder 113 = .ok (.bipush 7, 2) := by decide +kernel
theorem dX9_isUnder_115 : decode cX9_isUnder 115 = .ok (.if_icmp .ne 7, 3) := by decide +kernel
theorem dX9_isUnder_118 : decode cX9_isUnder 118 = .ok (.iconst 1, 1) := by decide +kernel
theorem dX9_isUnder_119 : decode cX9_isUnder 119 = .ok (.goto 4, 3) := by decide +kernel
theorem dX9_isUnder_122 : decode cX9_isUnder 122 = .ok (.iconst 0, 1) := by decide +kernel
theorem dX9_isUnder_123 : decode cX9_isUnder 123 = .ok (.ireturn, 1) := by decide +kernel
theorem dX9_isUnder_124 : decode cX9_isUnder 124 = .ok (.iload_n 0, 1) := by decide +kernel
theorem dX9_isUnder_125 : decode cX9_isUnder 125 = .ok (.iload_n 1, 1) := by decide +kernel
theorem dX9_isUnder_126 : decode cX9_isUnder 126 = .ok (.if_icmp .ne 7, 3) := by decide +kernel
theorem dX9_isUnder_129 : decode cX9_isUnder 129 = .ok (.iconst 1, 1) := by decide +kernel
theorem dX9_isUnder_130 : decode cX9_isUnder 130 = .ok (.goto 4, 3) := by decide +kernel
theorem dX9_isUnder_133 : decode cX9_isUnder 133 = .ok (.iconst 0, 1) := by decide +kernel
theorem dX9_isUnder_134 : decode cX9_isUnder 134 = .ok (.ireturn, 1) := by decide +kernel
theorem dX9_taken_0 : decode cX9_taken 0 = .ok (.iload_n 1, 1) := by decide +kernel
theorem dX9_taken_1 : decode cX9_taken 1 = .ok (.invokestatic 125, 3) := by decide +kernel
theorem dX9_taken_4 : decode cX9_taken 4 = .ok (.ifCond .eq 24, 3) := by decide +kernel
theorem dX9_taken_7 : decode cX9_taken 7 = .ok (.iload_n 2, 1) := by decide +kernel
theorem dX9_taken_8 : decode cX9_taken 8 = .ok (.iconst 0, 1) := by decide +kernel
theorem dX9_taken_9 : decode cX9_taken 9 = .ok (.bipush 8, 2) := by decide +kernel
theorem dX9_taken_11 : decode cX9_taken 11 = .ok (.invokestatic 93, 3) := by decide +kernel
theorem dX9_taken_14 : decode cX9_taken 14 = .ok (.ifCond .ne 16, 3) := by decide +kernel
theorem dX9_taken_17 : decode cX9_taken 17 = .ok (.iload_n 2, 1) := by decide +kernel
theorem dX9_taken_18 : decode cX9_taken 18 = .ok (.bipush 10, 2) := by decide +kernel
theorem dX9_taken_20 : decode cX9_taken 20 = .ok (.bipush 13, 2) := by decide +kernel
theorem dX9_taken_22 : decode cX9_taken 22 = .ok (.invokestatic 93, 3) := by decide +kernel
theorem dX9_taken_25 : decode cX9_taken 25 = .ok (.ifCond .ne 5, 3) := by decide +kernel
theorem dX9_taken_28 : decode cX9_taken 28 = .ok (.iconst (-1), 1) := by decide +kernel
theorem dX9_taken_29 : decode cX9_taken 29 = .ok (.ireturn, 1) := by decide +kernel
theorem dX9_taken_30 : decode cX9_taken 30 = .ok (.aload_n 0, 1) := by decide +kernel
theorem dX9_taken_31 : decode cX9_taken 31 = .ok (.iload_n 1, 1) := by decide +kernel
theorem dX9_taken_32 : decode cX9_taken 32 = .ok (.invokevirtual 353, 3) := by decide +kernel
theorem dX9_taken_35 : decode cX9_taken 35 = .ok (.istore_n 3, 1) := by decide +kernel
theorem dX9_taken_36 : decode cX9_taken 36 = .ok (.iload_n 3, 1) := by decide +kernel
theorem dX9_taken_37 : decode cX9_taken 37 = .ok (.ifCond .ge 6, 3) := by decide +kernel
theorem dX9_taken_40 : decode cX9_taken 40 = .ok (.bipush (-11), 2) := by decide +kernel
theorem dX9_taken_42 : decode cX9_taken 42 = .ok (.ireturn, 1) := by decide +kernel
theorem dX9_taken_43 : decode cX9_taken 43 = .ok (.iload_n 3, 1) := by decide +kernel
theorem dX9_taken_44 : decode cX9_taken 44 = .ok (.bipush 9, 2) := by decide +kernel
theorem dX9_taken_46 : decode cX9_taken 46 = .ok (.if_icmp .ne 28, 3) := by decide +kernel
theorem dX9_taken_49 : decode cX9_taken 49 = .ok (.iload_n 2, 1) := by decide +kernel
theorem dX9_taken_50 : decode cX9_taken 50 = .ok (.bipush 10, 2) := by decide +kernel
theorem dX9_taken_52 : decode cX9_taken 52 = .ok (.aload_n 0, 1) := by decide +kernel
theorem dX9_taken_53 : decode cX9_taken 53 = .ok (.getfield 74, 3) := by decide +kernel
theorem dX9_taken_56 : decode cX9_taken 56 = .ok (.iload_n 1, 1) := by decide +kernel
theorem dX9_taken_57 : decode cX9_taken 57 = .ok (.iaload, 1) := by decide +kernel
theorem dX9_taken_58 : decode cX9_taken 58 = .ok (.iadd, 1) := by decide +kernel
theorem dX9_taken_59 : decode cX9_taken 59 = .ok (.if_icmp .ne 12, 3) := by decide +kernel
theorem dX9_taken_62 : decode cX9_taken 62 = .ok (.aload_n 0, 1) := by decide +kernel
theorem dX9_taken_63 : decode cX9_taken 63 = .ok (.getfield 77, 3) := by decide +kernel
theorem dX9_taken_66 : decode cX9_taken 66 = .ok (.iload_n 1, 1) := by decide +kernel
theorem dX9_taken_67 : decode cX9_taken 67 = .ok (.iaload, 1) := by decide +kernel
theorem dX9_taken_68 : decode cX9_taken 68 = .ok (.goto 5, 3) := by decide +kernel
theorem dX9_taken_71 : decode cX9_taken 71 = .ok (.bipush (-13), 2) := by decide +kernel
theorem dX9_taken_73 : decode cX9_taken 73 = .ok (.ireturn, 1) := by decide +kernel
theorem dX9_taken_74 : decode cX9_taken 74 = .ok (.iload_n 2, 1) := by decide +kernel
theorem dX9_taken_75 : decode cX9_taken 75 = .ok (.bipush 10, 2) := by decide +kernel
theorem dX9_taken_77 : decode cX9_taken 77 = .ok (.if_icmp .ge 20, 3) := by decide +kernel
theorem dX9_taken_80 : decode cX9_taken 80 = .ok (.iload_n 3, 1) := by decide +kernel
theorem dX9_taken_81 : decode cX9_taken 81 = .ok (.iload_n 2, 1) := by decide +kernel
theorem dX9_taken_82 : decode cX9_taken 82 = .ok (.invokestatic 356, 3) := by decide +kernel
theorem dX9_taken_85 : decode cX9_taken 85 = .ok (.ifCond .eq 12, 3) := by decide +kernel
theorem dX9_taken_88 : decode cX9_taken 88 = .ok (.aload_n 0, 1) := by decide +kernel
theorem dX9_taken_89 : decode cX9_taken 89 = .ok (.getfield 74, 3) := by decide +kernel
theorem dX9_taken_92 : decode cX9_taken 92 = .ok (.iload_n 1, 1) := by decide +kernel
theorem dX9_taken_93 : decode cX9_taken 93 = .ok (.iaload, 1) := by decide +kernel
theorem dX9_taken_94 : decode cX9_taken 94 = .ok (.goto 5, 3) := by decide +kernel
theorem dX9_taken_97 : decode cX9_taken 97 = .ok (.bipush (-13), 2) := by decide +kernel
theorem dX9_taken_99 : decode cX9_taken 99 = .ok (.ireturn, 1) := by decide +kernel
theorem dX9_ran_0 : decode cX9_ran 0 = .ok (.aload_n 0, 1) := by decide +kernel
theorem dX9_ran_1 : decode cX9_ran 1 = .ok (.getfield 359, 3) := by decide +kernel
theorem dX9_ran_4 : decode cX9_ran 4 = .ok (.bipush 30, 2) := by decide +kernel
theorem dX9_ran_6 : decode cX9_ran 6 = .ok (.if_icmp .ge 23, 3) := by decide +kernel
theorem dX9_ran_9 : decode cX9_ran 9 = .ok (.aload_n 0, 1) := by decide +kernel
theorem dX9_ran_10 : decode cX9_ran 10 = .ok (.getfield 80, 3) := by decide +kernel
theorem dX9_ran_13 : decode cX9_ran 13 = .ok (.aload_n 0, 1) := by decide +kernel
theorem dX9_ran_14 : decode cX9_ran 14 = .ok (.getfield 359, 3) := by decide +kernel
theorem dX9_ran_17 : decode cX9_ran 17 = .ok (.iload_n 1, 1) := by decide +kernel
theorem dX9_ran_18 : decode cX9_ran 18 = .ok (.iastore, 1) := by decide +kernel
theorem dX9_ran_19 : decode cX9_ran 19 = .ok (.aload_n 0, 1) := by decide +kernel
theorem dX9_ran_20 : decode cX9_ran 20 = .ok (.dup, 1) := by decide +kernel
theorem dX9_ran_21 : decode cX9_ran 21 = .ok (.getfield 359, 3) := by decide +kernel
theorem dX9_ran_24 : decode cX9_ran 24 = .ok (.iconst 1, 1) := by decide +kernel
theorem dX9_ran_25 : decode cX9_ran 25 = .ok (.iadd, 1) := by decide +kernel
theorem dX9_ran_26 : decode cX9_ran 26 = .ok (.putfield 359, 3) := by decide +kernel
theorem dX9_ran_29 : decode cX9_ran 29 = .ok (.return_, 1) := by decide +kernel
theorem dX9_saysIt_0 : decode cX9_saysIt 0 = .ok (.aload_n 0, 1) := by decide +kernel
theorem dX9_saysIt_1 : decode cX9_saysIt 1 = .ok (.getfield 362, 3) := by decide +kernel
theorem dX9_saysIt_4 : decode cX9_saysIt 4 = .ok (.bipush 8, 2) := by decide +kernel
theorem dX9_saysIt_6 : decode cX9_saysIt 6 = .ok (.if_icmp .ne 16, 3) := by decide +kernel
theorem dX9_saysIt_9 : decode cX9_saysIt 9 = .ok (.aload_n 0, 1) := by decide +kernel
theorem dX9_saysIt_10 : decode cX9_saysIt 10 = .ok (.bipush 80, 2) := by decide +kernel
theorem dX9_saysIt_12 : decode cX9_saysIt 12 = .ok (.invokevirtual 365, 3) := by decide +kernel
theorem dX9_saysIt_15 : decode cX9_saysIt 15 = .ok (.aload_n 0, 1) := by decide +kernel
theorem dX9_saysIt_16 : decode cX9_saysIt 16 = .ok (.getfield 368, 3) := by decide +kernel
theorem dX9_saysIt_19 : decode cX9_saysIt 19 = .ok (.iload_n 1, 1) := by decide +kernel
theorem dX9_saysIt_20 : decode cX9_saysIt 20 = .ok (.isub, 1) := by decide +kernel
theorem dX9_saysIt_21 : decode cX9_saysIt 21 = .ok (.ireturn, 1) := by decide +kernel
theorem dX9_saysIt_22 : decode cX9_saysIt 22 = .ok (.aload_n 0, 1) := by decide +kernel
theorem dX9_saysIt_23 : decode cX9_saysIt 23 = .ok (.getfield 362, 3) := by decide +kernel
theorem dX9_saysIt_26 : decode cX9_saysIt 26 = .ok (.iconst 2, 1) := by decide +kernel
theorem dX9_saysIt_27 : decode cX9_saysIt 27 = .ok (.if_icmp .eq 20, 3) := by decide +kernel
theorem dX9_saysIt_30 : decode cX9_saysIt 30 = .ok (.aload_n 0, 1) := by decide +kernel
theorem dX9_saysIt_31 : decode cX9_saysIt 31 = .ok (.getfield 362, 3) := by decide +kernel
theorem dX9_saysIt_34 : decode cX9_saysIt 34 = .ok (.iconst 5, 1) := by decide +kernel
theorem dX9_saysIt_35 : decode cX9_saysIt 35 = .ok (.if_icmp .eq 12, 3) := by decide +kernel
theorem dX9_saysIt_38 : decode cX9_saysIt 38 = .ok (.aload_n 0, 1) := by decide +kernel
theorem dX9_saysIt_39 : decode cX9_saysIt 39 = .ok (.getfield 362, 3) := by decide +kernel
theorem dX9_saysIt_42 : decode cX9_saysIt 42 = .ok (.bipush 7, 2) := by decide +kernel
theorem dX9_saysIt_44 : decode cX9_saysIt 44 = .ok (.if_icmp .ne 7, 3) := by decide +kernel
theorem dX9_saysIt_47 : decode cX9_saysIt 47 = .ok (.iconst 1, 1) := by decide +kernel
theorem dX9_saysIt_48 : decode cX9_saysIt 48 = .ok (.goto 4, 3) := by decide +kernel
theorem dX9_saysIt_51 : decode cX9_saysIt 51 = .ok (.iconst 0, 1) := by decide +kernel
theorem dX9_saysIt_52 : decode cX9_saysIt 52 = .ok (.istore_n 2, 1) := by decide +kernel
theorem dX9_saysIt_53 : decode cX9_saysIt 53 = .ok (.aload_n 0, 1) := by decide +kernel
theorem dX9_saysIt_54 : decode cX9_saysIt 54 = .ok (.getfield 362, 3) := by decide +kernel
theorem dX9_saysIt_57 : decode cX9_saysIt 57 = .ok (.bipush 7, 2) := by decide +kernel
theorem dX9_saysIt_59 : decode cX9_saysIt 59 = .ok (.if_icmp .ne 9, 3) := by decide +kernel
theorem dX9_saysIt_62 : decode cX9_saysIt 62 = .ok (.aload_n 0, 1) := by decide +kernel
theorem dX9_saysIt_63 : decode cX9_saysIt 63 = .ok (.bipush 70, 2) := by decide +kernel
theorem dX9_saysIt_65 : decode cX9_saysIt 65 = .ok (.invokevirtual 365, 3) := by decide +kernel
theorem dX9_saysIt_68 : decode cX9_saysIt 68 = .ok (.iload_n 2, 1) := by decide +kernel
theorem dX9_saysIt_69 : decode cX9_saysIt 69 = .ok (.ifCond .eq 17, 3) := by decide +kernel
theorem dX9_saysIt_72 : decode cX9_saysIt 72 = .ok (.aload_n 0, 1) := by decide +kernel
theorem dX9_saysIt_73 : decode cX9_saysIt 73 = .ok (.getfield 362, 3) := by decide +kernel
theorem dX9_saysIt_76 : decode cX9_saysIt 76 = .ok (.iconst 2, 1) := by decide +kernel
theorem dX9_saysIt_77 : decode cX9_saysIt 77 = .ok (.if_icmp .eq 9, 3) := by decide +kernel
theorem dX9_saysIt_80 : decode cX9_saysIt 80 = .ok (.aload_n 0, 1) := by decide +kernel
theorem dX9_saysIt_81 : decode cX9_saysIt 81 = .ok (.bipush 50, 2) := by decide +kernel
theorem dX9_saysIt_83 : decode cX9_saysIt 83 = .ok (.invokevirtual 365, 3) := by decide +kernel
theorem dX9_saysIt_86 : decode cX9_saysIt 86 = .ok (.iload_n 2, 1) := by decide +kernel
theorem dX9_saysIt_87 : decode cX9_saysIt 87 = .ok (.ifCond .eq 9, 3) := by decide +kernel
theorem dX9_saysIt_90 : decode cX9_saysIt 90 = .ok (.aload_n 0, 1) := by decide +kernel
theorem dX9_saysIt_91 : decode cX9_saysIt 91 = .ok (.bipush 20, 2) := by decide +kernel
theorem dX9_saysIt_93 : decode cX9_saysIt 93 = .ok (.invokevirtual 365, 3) := by decide +kernel
theorem dX9_saysIt_96 : decode cX9_saysIt 96 = .ok (.aload_n 0, 1) := by decide +kernel
theorem dX9_saysIt_97 : decode cX9_saysIt 97 = .ok (.bipush 10, 2) := by decide +kernel
theorem dX9_saysIt_99 : decode cX9_saysIt 99 = .ok (.invokevirtual 365, 3) := by decide +kernel
theorem dX9_saysIt_102 : decode cX9_saysIt 102 = .ok (.iload_n 1, 1) := by decide +kernel
theorem dX9_saysIt_103 : decode cX9_saysIt 103 = .ok (.aload_n 0, 1) := by decide +kernel
theorem dX9_saysIt_104 : decode cX9_saysIt 104 = .ok (.getfield 368, 3) := by decide +kernel
theorem dX9_saysIt_107 : decode cX9_saysIt 107 = .ok (.iadd, 1) := by decide +kernel
theorem dX9_saysIt_108 : decode cX9_saysIt 108 = .ok (.iload_n 2, 1) := by decide +kernel
theorem dX9_saysIt_109 : decode cX9_saysIt 109 = .ok (.ifCond .eq 7, 3) := by decide +kernel
theorem dX9_saysIt_112 : decode cX9_saysIt 112 = .ok (.iconst 1, 1) := by decide +kernel
theorem dX9_saysIt_113 : decode cX9_saysIt 113 = .ok (.goto 4, 3) := by decide +kernel
theorem dX9_saysIt_116 : decode cX9_saysIt 116 = .ok (.iconst 0, 1) := by decide +kernel
theorem dX9_saysIt_117 : decode cX9_saysIt 117 = .ok (.isub, 1) := by decide +kernel
theorem dX9_saysIt_118 : decode cX9_saysIt 118 = .ok (.istore_n 3, 1) := by decide +kernel
theorem dX9_saysIt_119 : decode cX9_saysIt 119 = .ok (.iload_n 2, 1) := by decide +kernel
theorem dX9_saysIt_120 : decode cX9_saysIt 120 = .ok (.ifCond .eq 20, 3) := by decide +kernel
theorem dX9_saysIt_123 : decode cX9_saysIt 123 = .ok (.aload_n 0, 1) := by decide +kernel
theorem dX9_saysIt_124 : decode cX9_saysIt 124 = .ok (.getfield 362, 3) := by decide +kernel
theorem dX9_saysIt_127 : decode cX9_saysIt 127 = .ok (.iconst 2, 1) := by decide +kernel
theorem dX9_saysIt_128 : decode cX9_saysIt 128 = .ok (.if_icmp .eq 12, 3) := by decide +kernel
theorem dX9_saysIt_131 : decode cX9_saysIt 131 = .ok (.iload_n 3, 1) := by decide +kernel
theorem dX9_saysIt_132 : decode cX9_saysIt 132 = .ok (.aload_n 0, 1) := by decide +kernel
theorem dX9_saysIt_133 : decode cX9_saysIt 133 = .ok (.getfield 368, 3) := by decide +kernel
theorem dX9_saysIt_136 : decode cX9_saysIt 136 = .ok (.ixor, 1) := by decide +kernel
theorem dX9_saysIt_137 : decode cX9_saysIt 137 = .ok (.goto 4, 3) := by decide +kernel
theorem dX9_saysIt_140 : decode cX9_saysIt 140 = .ok (.iload_n 3, 1) := by decide +kernel
theorem dX9_saysIt_141 : decode cX9_saysIt 141 = .ok (.istore_n 3, 1) := by decide +kernel
theorem dX9_saysIt_142 : decode cX9_saysIt 142 = .ok (.aload_n 0, 1) := by decide +kernel
theorem dX9_saysIt_143 : decode cX9_saysIt 143 = .ok (.getfield 362, 3) := by decide +kernel
theorem dX9_saysIt_146 : decode cX9_saysIt 146 = .ok (.bipush 7, 2) := by decide +kernel
theorem dX9_saysIt_148 : decode cX9_saysIt 148 = .ok (.if_icmp .ne 9, 3) := by decide +kernel
theorem dX9_saysIt_151 : decode cX9_saysIt 151 = .ok (.iload_n 3, 1) := by decide +kernel
theorem dX9_saysIt_152 : decode cX9_saysIt 152 = .ok (.iconst 5, 1) := by decide +kernel
theorem dX9_saysIt_153 : decode cX9_saysIt 153 = .ok (.imul, 1) := by decide +kernel
theorem dX9_saysIt_154 : decode cX9_saysIt 154 = .ok (.goto 4, 3) := by decide +kernel
theorem dX9_saysIt_157 : decode cX9_saysIt 157 = .ok (.iload_n 3, 1) := by decide +kernel
theorem dX9_saysIt_158 : decode cX9_saysIt 158 = .ok (.ireturn, 1) := by decide +kernel
theorem dX9_paperLeans_0 : decode cX9_paperLeans 0 = .ok (.aload_n 0, 1) := by decide +kernel
theorem dX9_paperLeans_1 : decode cX9_paperLeans 1 = .ok (.bipush 11, 2) := by decide +kernel
theorem dX9_paperLeans_3 : decode cX9_paperLeans 3 = .ok (.invokevirtual 365, 3) := by decide +kernel
theorem dX9_paperLeans_6 : decode cX9_paperLeans 6 = .ok (.aload_n 0, 1) := by decide +kernel
theorem dX9_paperLeans_7 : decode cX9_paperLeans 7 = .ok (.iload_n 1, 1) := by decide +kernel
theorem dX9_paperLeans_8 : decode cX9_paperLeans 8 = .ok (.invokevirtual 371, 3) := by decide +kernel
theorem dX9_paperLeans_11 : decode cX9_paperLeans 11 = .ok (.iconst 2, 1) := by decide +kernel
theorem dX9_paperLeans_12 : decode cX9_paperLeans 12 = .ok (.imul, 1) := by decide +kernel
theorem dX9_paperLeans_13 : decode cX9_paperLeans 13 = .ok (.ireturn, 1) := by decide +kernel
theorem dX9_countLeans_0 : decode cX9_countLeans 0 = .ok (.aload_n 0, 1) := by decide +kernel
theorem dX9_countLeans_1 : decode cX9_countLeans 1 = .ok (.bipush 30, 2) := by decide +kernel
theorem dX9_countLeans_3 : decode cX9_countLeans 3 = .ok (.invokevirtual 365, 3) := by decide +kernel
theorem dX9_countLeans_6 : decode cX9_countLeans 6 = .ok (.aload_n 0, 1) := by decide +kernel
theorem dX9_countLeans_7 : decode cX9_countLeans 7 = .ok (.iload_n 1, 1) := by decide +kernel
theorem dX9_countLeans_8 : decode cX9_countLeans 8 = .ok (.invokevirtual 374, 3) := by decide +kernel
theorem dX9_countLeans_11 : decode cX9_countLeans 11 = .ok (.istore_n 2, 1) := by decide +kernel
theorem dX9_countLeans_12 : decode cX9_countLeans 12 = .ok (.iload_n 2, 1) := by decide +kernel
theorem dX9_countLeans_13 : decode cX9_countLeans 13 = .ok (.aload_n 0, 1) := by decide +kernel
theorem dX9_countLeans_14 : decode cX9_countLeans 14 = .ok (.aload_n 0, 1) := by decide +kernel
theorem dX9_countLeans_15 : decode cX9_countLeans 15 = .ok (.getfield 377, 3) := by decide +kernel
theorem dX9_countLeans_18 : decode cX9_countLeans 18 = .ok (.invokevirtual 371, 3) := by decide +kernel
theorem dX9_countLeans_21 : decode cX9_countLeans 21 = .ok (.iadd, 1) := by decide +kernel
theorem dX9_countLeans_22 : decode cX9_countLeans 22 = .ok (.ireturn, 1) := by decide +kernel
theorem dX9_leansIt_0 : decode cX9_leansIt 0 = .ok (.aload_n 0, 1) := by decide +kernel
theorem dX9_leansIt_1 : decode cX9_leansIt 1 = .ok (.getfield 362, 3) := by decide +kernel
theorem dX9_leansIt_4 : decode cX9_leansIt 4 = .ok (.bipush 8, 2) := by decide +kernel
theorem dX9_leansIt_6 : decode cX9_leansIt 6 = .ok (.if_icmp .ne 16, 3) := by decide +kernel
theorem dX9_leansIt_9 : decode cX9_leansIt 9 = .ok (.aload_n 0, 1) := by decide +kernel
theorem dX9_leansIt_10 : decode cX9_leansIt 10 = .ok (.bipush 81, 2) := by decide +kernel
theorem dX9_leansIt_12 : decode cX9_leansIt 12 = .ok (.invokevirtual 365, 3) := by decide +kernel
theorem dX9_leansIt_15 : decode cX9_leansIt 15 = .ok (.iload_n 1, 1) := by decide +kernel
theorem dX9_leansIt_16 : decode cX9_leansIt 16 = .ok (.aload_n 0, 1) := by decide +kernel
theorem dX9_leansIt_17 : decode cX9_leansIt 17 = .ok (.getfield 377, 3) := by decide +kernel
theorem dX9_leansIt_20 : decode cX9_leansIt 20 = .ok (.iadd, 1) := by decide +kernel
theorem dX9_leansIt_21 : decode cX9_leansIt 21 = .ok (.ireturn, 1) := by decide +kernel
theorem dX9_leansIt_22 : decode cX9_leansIt 22 = .ok (.aload_n 0, 1) := by decide +kernel
theorem dX9_leansIt_23 : decode cX9_leansIt 23 = .ok (.getfield 362, 3) := by decide +kernel
theorem dX9_leansIt_26 : decode cX9_leansIt 26 = .ok (.bipush 6, 2) := by decide +kernel
theorem dX9_leansIt_28 : decode cX9_leansIt 28 = .ok (.if_icmp .ne 16, 3) := by decide +kernel
theorem dX9_leansIt_31 : decode cX9_leansIt 31 = .ok (.aload_n 0, 1) := by decide +kernel
theorem dX9_leansIt_32 : decode cX9_leansIt 32 = .ok (.bipush 60, 2) := by decide +kernel
theorem dX9_leansIt_34 : decode cX9_leansIt 34 = .ok (.invokevirtual 365, 3) := by decide +kernel
theorem dX9_leansIt_37 : decode cX9_leansIt 37 = .ok (.aload_n 0, 1) := by decide +kernel
theorem dX9_leansIt_38 : decode cX9_leansIt 38 = .ok (.iload_n 1, 1) := by decide +kernel
theorem dX9_leansIt_39 : decode cX9_leansIt 39 = .ok (.invokevirtual 380, 3) := by decide +kernel
theorem dX9_leansIt_42 : decode cX9_leansIt 42 = .ok (.ineg, 1) := by decide +kernel
theorem dX9_leansIt_43 : decode cX9_leansIt 43 = .ok (.ireturn, 1) := by decide +kernel
theorem dX9_leansIt_44 : decode cX9_leansIt 44 = .ok (.aload_n 0, 1) := by decide +kernel
theorem dX9_leansIt_45 : decode cX9_leansIt 45 = .ok (.getfield 362, 3) := by decide +kernel
theorem dX9_leansIt_48 : decode cX9_leansIt 48 = .ok (.iconst 3, 1) := by decide +kernel
theorem dX9_leansIt_49 : decode cX9_leansIt 49 = .ok (.if_icmp .ne 11, 3) := by decide +kernel
theorem dX9_leansIt_52 : decode cX9_leansIt 52 = .ok (.aload_n 0, 1) := by decide +kernel
theorem dX9_leansIt_53 : decode cX9_leansIt 53 = .ok (.iload_n 1, 1) := by decide +kernel
theorem dX9_leansIt_54 : decode cX9_leansIt 54 = .ok (.invokevirtual 380, 3) := by decide +kernel
theorem dX9_leansIt_57 : decode cX9_leansIt 57 = .ok (.goto 8, 3) := by decide +kernel
theorem dX9_leansIt_60 : decode cX9_leansIt 60 = .ok (.aload_n 0, 1) := by decide +kernel
theorem dX9_leansIt_61 : decode cX9_leansIt 61 = .ok (.iload_n 1, 1) := by decide +kernel
theorem dX9_leansIt_62 : decode cX9_leansIt 62 = .ok (.invokevirtual 374, 3) := by decide +kernel
theorem dX9_leansIt_65 : decode cX9_leansIt 65 = .ok (.ireturn, 1) := by decide +kernel
theorem dX9_fitsIt_0 : decode cX9_fitsIt 0 = .ok (.aload_n 0, 1) := by decide +kernel
theorem dX9_fitsIt_1 : decode cX9_fitsIt 1 = .ok (.getfield 362, 3) := by decide +kernel
theorem dX9_fitsIt_4 : decode cX9_fitsIt 4 = .ok (.bipush 8, 2) := by decide +kernel
theorem dX9_fitsIt_6 : decode cX9_fitsIt 6 = .ok (.if_icmp .ne 16, 3) := by decide +kernel
theorem dX9_fitsIt_9 : decode cX9_fitsIt 9 = .ok (.aload_n 0, 1) := by decide +kernel
theorem dX9_fitsIt_10 : decode cX9_fitsIt 10 = .ok (.bipush 82, 2) := by decide +kernel
theorem dX9_fitsIt_12 : decode cX9_fitsIt 12 = .ok (.invokevirtual 365, 3) := by decide +kernel
theorem dX9_fitsIt_15 : decode cX9_fitsIt 15 = .ok (.iload_n 1, 1) := by decide +kernel
theorem dX9_fitsIt_16 : decode cX9_fitsIt 16 = .ok (.aload_n 0, 1) := by decide +kernel
theorem dX9_fitsIt_17 : decode cX9_fitsIt 17 = .ok (.getfield 368, 3) := by decide +kernel
theorem dX9_fitsIt_20 : decode cX9_fitsIt 20 = .ok (.iand, 1) := by decide +kernel
theorem dX9_fitsIt_21 : decode cX9_fitsIt 21 = .ok (.ireturn, 1) := by decide +kernel
theorem dX9_fitsIt_22 : decode cX9_fitsIt 22 = .ok (.iload_n 1, 1) := by decide +kernel
theorem dX9_fitsIt_23 : decode cX9_fitsIt 23 = .ok (.istore_n 2, 1) := by decide +kernel
theorem dX9_fitsIt_24 : decode cX9_fitsIt 24 = .ok (.aload_n 0, 1) := by decide +kernel
theorem dX9_fitsIt_25 : decode cX9_fitsIt 25 = .ok (.getfield 362, 3) := by decide +kernel
theorem dX9_fitsIt_28 : decode cX9_fitsIt 28 = .ok (.iconst 5, 1) := by decide +kernel
theorem dX9_fitsIt_29 : decode cX9_fitsIt 29 = .ok (.if_icmp .eq 12, 3) := by decide +kernel
theorem dX9_fitsIt_32 : decode cX9_fitsIt 32 = .ok (.aload_n 0, 1) := by decide +kernel
theorem dX9_fitsIt_33 : decode cX9_fitsIt 33 = .ok (.getfield 362, 3) := by decide +kernel
theorem dX9_fitsIt_36 : decode cX9_fitsIt 36 = .ok (.bipush 7, 2) := by decide +kernel
theorem dX9_fitsIt_38 : decode cX9_fitsIt 38 = .ok (.if_icmp .ne 13, 3) := by decide +kernel
theorem dX9_fitsIt_41 : decode cX9_fitsIt 41 = .ok (.aload_n 0, 1) := by decide +kernel
theorem dX9_fitsIt_42 : decode cX9_fitsIt 42 = .ok (.bipush 51, 2) := by decide +kernel
theorem dX9_fitsIt_44 : decode cX9_fitsIt 44 = .ok (.invokevirtual 365, 3) := by decide +kernel
theorem dX9_fitsIt_47 : decode cX9_fitsIt 47 = .ok (.iload_n 1, 1) := by decide +kernel
theorem dX9_fitsIt_48 : decode cX9_fitsIt 48 = .ok (.iconst 1, 1) := by decide +kernel
theorem dX9_fitsIt_49 : decode cX9_fitsIt 49 = .ok (.iadd, 1) := by decide +kernel
theorem dX9_fitsIt_50 : decode cX9_fitsIt 50 = .ok (.istore_n 2, 1) := by decide +kernel
theorem dX9_fitsIt_51 : decode cX9_fitsIt 51 = .ok (.aload_n 0, 1) := by decide +kernel
theorem dX9_fitsIt_52 : decode cX9_fitsIt 52 = .ok (.bipush 12, 2) := by decide +kernel
theorem dX9_fitsIt_54 : decode cX9_fitsIt 54 = .ok (.invokevirtual 365, 3) := by decide +kernel
theorem dX9_fitsIt_57 : decode cX9_fitsIt 57 = .ok (.aload_n 0, 1) := by decide +kernel
theorem dX9_fitsIt_58 : decode cX9_fitsIt 58 = .ok (.getfield 368, 3) := by decide +kernel
theorem dX9_fitsIt_61 : decode cX9_fitsIt 61 = .ok (.aload_n 0, 1) := by decide +kernel
theorem dX9_fitsIt_62 : decode cX9_fitsIt 62 = .ok (.getfield 377, 3) := by decide +kernel
theorem dX9_fitsIt_65 : decode cX9_fitsIt 65 = .ok (.if_icmp .ne 10, 3) := by decide +kernel
theorem dX9_fitsIt_68 : decode cX9_fitsIt 68 = .ok (.aload_n 0, 1) := by decide +kernel
theorem dX9_fitsIt_69 : decode cX9_fitsIt 69 = .ok (.iconst 1, 1) := by decide +kernel
theorem dX9_fitsIt_70 : decode cX9_fitsIt 70 = .ok (.putfield 383, 3) := by decide +kernel
theorem dX9_fitsIt_73 : decode cX9_fitsIt 73 = .ok (.iconst 0, 1) := by decide +kernel
theorem dX9_fitsIt_74 : decode cX9_fitsIt 74 = .ok (.ireturn, 1) := by decide +kernel
theorem dX9_fitsIt_75 : decode cX9_fitsIt 75 = .ok (.iload_n 2, 1) := by decide +kernel
theorem dX9_fitsIt_76 : decode cX9_fitsIt 76 = .ok (.aload_n 0, 1) := by decide +kernel
theorem dX9_fitsIt_77 : decode cX9_fitsIt 77 = .ok (.getfield 368, 3) := by decide +kernel
theorem dX9_fitsIt_80 : decode cX9_fitsIt 80 = .ok (.aload_n 0, 1) := by decide +kernel
theorem dX9_fitsIt_81 : decode cX9_fitsIt 81 = .ok (.getfield 377, 3) := by decide +kernel
theorem dX9_fitsIt_84 : decode cX9_fitsIt 84 = .ok (.isub, 1) := by decide +kernel
theorem dX9_fitsIt_85 : decode cX9_fitsIt 85 = .ok (.idiv, 1) := by decide +kernel
theorem dX9_fitsIt_86 : decode cX9_fitsIt 86 = .ok (.ireturn, 1) := by decide +kernel
theorem dX9_paperTells_0 : decode cX9_paperTells 0 = .ok (.aload_n 0, 1) := by decide +kernel
theorem dX9_paperTells_1 : decode cX9_paperTells 1 = .ok (.bipush 13, 2) := by decide +kernel
theorem dX9_paperTells_3 : decode cX9_paperTells 3 = .ok (.invokevirtual 365, 3) := by decide +kernel
theorem dX9_paperTells_6 : decode cX9_paperTells 6 = .ok (.aload_n 0, 1) := by decide +kernel
theorem dX9_paperTells_7 : decode cX9_paperTells 7 = .ok (.iload_n 1, 1) := by decide +kernel
theorem dX9_paperTells_8 : decode cX9_paperTells 8 = .ok (.invokevirtual 387, 3) := by decide +kernel
theorem dX9_paperTells_11 : decode cX9_paperTells 11 = .ok (.aload_n 0, 1) := by decide +kernel
theorem dX9_paperTells_12 : decode cX9_paperTells 12 = .ok (.getfield 377, 3) := by decide +kernel
theorem dX9_paperTells_15 : decode cX9_paperTells 15 = .ok (.ixor, 1) := by decide +kernel
theorem dX9_paperTells_16 : decode cX9_paperTells 16 = .ok (.ireturn, 1) := by decide +kernel
theorem dX9_tellsIt_0 : decode cX9_tellsIt 0 = .ok (.aload_n 0, 1) := by decide +kernel
theorem dX9_tellsIt_1 : decode cX9_tellsIt 1 = .ok (.getfield 362, 3) := by decide +kernel
theorem dX9_tellsIt_4 : decode cX9_tellsIt 4 = .ok (.bipush 8, 2) := by decide +kernel
theorem dX9_tellsIt_6 : decode cX9_tellsIt 6 = .ok (.if_icmp .ne 23, 3) := by decide +kernel
theorem dX9_tellsIt_9 : decode cX9_tellsIt 9 = .ok (.aload_n 0, 1) := by decide +kernel
theorem dX9_tellsIt_10 : decode cX9_tellsIt 10 = .ok (.bipush 83, 2) := by decide +kernel
theorem dX9_tellsIt_12 : decode cX9_tellsIt 12 = .ok (.invokevirtual 365, 3) := by decide +kernel
theorem dX9_tellsIt_15 : decode cX9_tellsIt 15 = .ok (.aload_n 0, 1) := by decide +kernel
theorem dX9_tellsIt_16 : decode cX9_tellsIt 16 = .ok (.iload_n 1, 1) := by decide +kernel
theorem dX9_tellsIt_17 : decode cX9_tellsIt 17 = .ok (.invokevirtual 371, 3) := by decide +kernel
theorem dX9_tellsIt_20 : decode cX9_tellsIt 20 = .ok (.istore_n 2, 1) := by decide +kernel
theorem dX9_tellsIt_21 : decode cX9_tellsIt 21 = .ok (.iload_n 2, 1) := by decide +kernel
theorem dX9_tellsIt_22 : decode cX9_tellsIt 22 = .ok (.aload_n 0, 1) := by decide +kernel
theorem dX9_tellsIt_23 : decode cX9_tellsIt 23 = .ok (.iload_n 1, 1) := by decide +kernel
theorem dX9_tellsIt_24 : decode cX9_tellsIt 24 = .ok (.invokevirtual 387, 3) := by decide +kernel
theorem dX9_tellsIt_27 : decode cX9_tellsIt 27 = .ok (.iadd, 1) := by decide +kernel
theorem dX9_tellsIt_28 : decode cX9_tellsIt 28 = .ok (.ireturn, 1) := by decide +kernel
theorem dX9_tellsIt_29 : decode cX9_tellsIt 29 = .ok (.aload_n 0, 1) := by decide +kernel
theorem dX9_tellsIt_30 : decode cX9_tellsIt 30 = .ok (.getfield 362, 3) := by decide +kernel
theorem dX9_tellsIt_33 : decode cX9_tellsIt 33 = .ok (.iconst 4, 1) := by decide +kernel
theorem dX9_tellsIt_34 : decode cX9_tellsIt 34 = .ok (.if_icmp .ne 17, 3) := by decide +kernel
theorem dX9_tellsIt_37 : decode cX9_tellsIt 37 = .ok (.aload_n 0, 1) := by decide +kernel
theorem dX9_tellsIt_38 : decode cX9_tellsIt 38 = .ok (.bipush 40, 2) := by decide +kernel
theorem dX9_tellsIt_40 : decode cX9_tellsIt 40 = .ok (.invokevirtual 365, 3) := by decide +kernel
theorem dX9_tellsIt_43 : decode cX9_tellsIt 43 = .ok (.aload_n 0, 1) := by decide +kernel
theorem dX9_tellsIt_44 : decode cX9_tellsIt 44 = .ok (.iload_n 1, 1) := by decide +kernel
theorem dX9_tellsIt_45 : decode cX9_tellsIt 45 = .ok (.invokevirtual 390, 3) := by decide +kernel
theorem dX9_tellsIt_48 : decode cX9_tellsIt 48 = .ok (.iconst 3, 1) := by decide +kernel
theorem dX9_tellsIt_49 : decode cX9_tellsIt 49 = .ok (.imul, 1) := by decide +kernel
theorem dX9_tellsIt_50 : decode cX9_tellsIt 50 = .ok (.ireturn, 1) := by decide +kernel
theorem dX9_tellsIt_51 : decode cX9_tellsIt 51 = .ok (.aload_n 0, 1) := by decide +kernel
theorem dX9_tellsIt_52 : decode cX9_tellsIt 52 = .ok (.getfield 362, 3) := by decide +kernel
theorem dX9_tellsIt_55 : decode cX9_tellsIt 55 = .ok (.bipush 6, 2) := by decide +kernel
theorem dX9_tellsIt_57 : decode cX9_tellsIt 57 = .ok (.if_icmp .ne 26, 3) := by decide +kernel
theorem dX9_tellsIt_60 : decode cX9_tellsIt 60 = .ok (.aload_n 0, 1) := by decide +kernel
theorem dX9_tellsIt_61 : decode cX9_tellsIt 61 = .ok (.bipush 61, 2) := by decide +kernel
theorem dX9_tellsIt_63 : decode cX9_tellsIt 63 = .ok (.invokevirtual 365, 3) := by decide +kernel
theorem dX9_tellsIt_66 : decode cX9_tellsIt 66 = .ok (.aload_n 0, 1) := by decide +kernel
theorem dX9_tellsIt_67 : decode cX9_tellsIt 67 = .ok (.iload_n 1, 1) := by decide +kernel
theorem dX9_tellsIt_68 : decode cX9_tellsIt 68 = .ok (.invokevirtual 390, 3) := by decide +kernel
theorem dX9_tellsIt_71 : decode cX9_tellsIt 71 = .ok (.istore_n 2, 1) := by decide +kernel
theorem dX9_tellsIt_72 : decode cX9_tellsIt 72 = .ok (.iload_n 2, 1) := by decide +kernel
theorem dX9_tellsIt_73 : decode cX9_tellsIt 73 = .ok (.aload_n 0, 1) := by decide +kernel
theorem dX9_tellsIt_74 : decode cX9_tellsIt 74 = .ok (.aload_n 0, 1) := by decide +kernel
theorem dX9_tellsIt_75 : decode cX9_tellsIt 75 = .ok (.getfield 377, 3) := by decide +kernel
theorem dX9_tellsIt_78 : decode cX9_tellsIt 78 = .ok (.invokevirtual 393, 3) := by decide +kernel
theorem dX9_tellsIt_81 : decode cX9_tellsIt 81 = .ok (.iadd, 1) := by decide +kernel
theorem dX9_tellsIt_82 : decode cX9_tellsIt 82 = .ok (.ireturn, 1) := by decide +kernel
theorem dX9_tellsIt_83 : decode cX9_tellsIt 83 = .ok (.aload_n 0, 1) := by decide +kernel
theorem dX9_tellsIt_84 : decode cX9_tellsIt 84 = .ok (.iload_n 1, 1) := by decide +kernel
theorem dX9_tellsIt_85 : decode cX9_tellsIt 85 = .ok (.invokevirtual 390, 3) := by decide +kernel
theorem dX9_tellsIt_88 : decode cX9_tellsIt 88 = .ok (.ireturn, 1) := by decide +kernel
theorem dX9_act_0 : decode cX9_act 0 = .ok (.aload_n 0, 1) := by decide +kernel
theorem dX9_act_1 : decode cX9_act 1 = .ok (.iconst 0, 1) := by decide +kernel
theorem dX9_act_2 : decode cX9_act 2 = .ok (.putfield 359, 3) := by decide +kernel
theorem dX9_act_5 : decode cX9_act 5 = .ok (.iload_n 1, 1) := by decide +kernel
theorem dX9_act_6 : decode cX9_act 6 = .ok (.invokestatic 125, 3) := by decide +kernel
theorem dX9_act_9 : decode cX9_act 9 = .ok (.ifCond .eq 26, 3) := by decide +kernel
theorem dX9_act_12 : decode cX9_act 12 = .ok (.iload_n 2, 1) := by decide +kernel
theorem dX9_act_13 : decode cX9_act 13 = .ok (.iconst 0, 1) := by decide +kernel
theorem dX9_act_14 : decode cX9_act 14 = .ok (.iconst 3, 1) := by decide +kernel
theorem dX9_act_15 : decode cX9_act 15 = .ok (.invokestatic 93, 3) := by decide +kernel
theorem dX9_act_18 : decode cX9_act 18 = .ok (.ifCond .eq 17, 3) := by decide +kernel
theorem dX9_act_21 : decode cX9_act 21 = .ok (.aload_n 0, 1) := by decide +kernel
theorem dX9_act_22 : decode cX9_act 22 = .ok (.iload_n 1, 1) := by decide +kernel
theorem dX9_act_23 : decode cX9_act 23 = .ok (.invokevirtual 353, 3) := by decide +kernel
theorem dX9_act_26 : decode cX9_act 26 = .ok (.iconst 1, 1) := by decide +kernel
theorem dX9_act_27 : decode cX9_act 27 = .ok (.bipush 8, 2) := by decide +kernel
theorem dX9_act_29 : decode cX9_act 29 = .ok (.invokestatic 93, 3) := by decide +kernel
theorem dX9_act_32 : decode cX9_act 32 = .ok (.ifCond .ne 5, 3) := by decide +kernel
theorem dX9_act_35 : decode cX9_act 35 = .ok (.iconst 0, 1) := by decide +kernel
theorem dX9_act_36 : decode cX9_act 36 = .ok (.ireturn, 1) := by decide +kernel
theorem dX9_act_37 : decode cX9_act 37 = .ok (.aload_n 0, 1) := by decide +kernel
theorem dX9_act_38 : decode cX9_act 38 = .ok (.aload_n 0, 1) := by decide +kernel
theorem dX9_act_39 : decode cX9_act 39 = .ok (.iload_n 1, 1) := by decide +kernel
theorem dX9_act_40 : decode cX9_act 40 = .ok (.invokevirtual 353, 3) := by decide +kernel
theorem dX9_act_43 : decode cX9_act 43 = .ok (.putfield 362, 3) := by decide +kernel
theorem dX9_act_46 : decode cX9_act 46 = .ok (.aload_n 0, 1) := by decide +kernel
theorem dX9_act_47 : decode cX9_act 47 = .ok (.aload_n 0, 1) := by decide +kernel
theorem dX9_act_48 : decode cX9_act 48 = .ok (.getfield 74, 3) := by decide +kernel
theorem dX9_act_51 : decode cX9_act 51 = .ok (.iload_n 1, 1) := by decide +kernel
theorem dX9_act_52 : decode cX9_act 52 = .ok (.iaload, 1) := by decide +kernel
theorem dX9_act_53 : decode cX9_act 53 = .ok (.putfield 377, 3) := by decide +kernel
theorem dX9_act_56 : decode cX9_act 56 = .ok (.aload_n 0, 1) := by decide +kernel
theorem dX9_act_57 : decode cX9_act 57 = .ok (.aload_n 0, 1) := by decide +kernel
theorem dX9_act_58 : decode cX9_act 58 = .ok (.getfield 362, 3) := by decide +kernel
theorem dX9_act_61 : decode cX9_act 61 = .ok (.bipush 8, 2) := by decide +kernel
theorem dX9_act_63 : decode cX9_act 63 = .ok (.if_icmp .ne 14, 3) := by decide +kernel
theorem dX9_act_66 : decode cX9_act 66 = .ok (.aload_n 0, 1) := by decide +kernel
theorem dX9_act_67 : decode cX9_act 67 = .ok (.aload_n 0, 1) := by decide +kernel
theorem dX9_act_68 : decode cX9_act 68 = .ok (.getfield 377, 3) := by decide +kernel
theorem dX9_act_71 : decode cX9_act 71 = .ok (.invokevirtual 104, 3) := by decide +kernel
theorem dX9_act_74 : decode cX9_act 74 = .ok (.goto 17, 3) := by decide +kernel
theorem dX9_act_77 : decode cX9_act 77 = .ok (.aload_n 0, 1) := by decide +kernel
theorem dX9_act_78 : decode cX9_act 78 = .ok (.getfield 13, 3) := by decide +kernel
theorem dX9_act_81 : decode cX9_act 81 = .ok (.bipush 6, 2) := by decide +kernel
theorem dX9_act_83 : decode cX9_act 83 = .ok (.aload_n 0, 1) := by decide +kernel
theorem dX9_act_84 : decode cX9_act 84 = .ok (.getfield 377, 3) := by decide +kernel
theorem dX9_act_87 : decode cX9_act 87 = .ok (.imul, 1) := by decide +kernel
theorem dX9_act_88 : decode cX9_act 88 = .ok (.iconst 3, 1) := by decide +kernel
theorem dX9_act_89 : decode cX9_act 89 = .ok (.iadd, 1) := by decide +kernel
theorem dX9_act_90 : decode cX9_act 90 = .ok (.iaload, 1) := by decide +kernel
theorem dX9_act_91 : decode cX9_act 91 = .ok (.putfield 368, 3) := by decide +kernel
theorem dX9_act_94 : decode cX9_act 94 = .ok (.aload_n 0, 1) := by decide +kernel
theorem dX9_act_95 : decode cX9_act 95 = .ok (.iconst 0, 1) := by decide +kernel
theorem dX9_act_96 : decode cX9_act 96 = .ok (.putfield 383, 3) := by decide +kernel
theorem dX9_act_99 : decode cX9_act 99 = .ok (.iload_n 2, 1) := by decide +kernel
theorem dX9_act_100 : decode cX9_act 100 = .ok (.ifCond .ne 11, 3) := by decide +kernel
theorem dX9_act_103 : decode cX9_act 103 = .ok (.aload_n 0, 1) := by decide +kernel
theorem dX9_act_104 : decode cX9_act 104 = .ok (.iload_n 3, 1) := by decide +kernel
theorem dX9_act_105 : decode cX9_act 105 = .ok (.invokevirtual 371, 3) := by decide +kernel
theorem dX9_act_108 : decode cX9_act 108 = .ok (.goto 34, 3) := by decide +kernel
theorem dX9_act_111 : decode cX9_act 111 = .ok (.iload_n 2, 1) := by decide +kernel
theorem dX9_act_112 : decode cX9_act 112 = .ok (.iconst 1, 1) := by decide +kernel
theorem dX9_act_113 : decode cX9_act 113 = .ok (.if_icmp .ne 11, 3) := by decide +kernel
theorem dX9_act_116 : decode cX9_act 116 = .ok (.aload_n 0, 1) := by decide +kernel
theorem dX9_act_117 : decode cX9_act 117 = .ok (.iload_n 3, 1) := by decide +kernel
theorem dX9_act_118 : decode cX9_act 118 = .ok (.invokevirtual 387, 3) := by decide +kernel
theorem dX9_act_121 : decode cX9_act 121 = .ok (.goto 21, 3) := by decide +kernel
theorem dX9_act_124 : decode cX9_act 124 = .ok (.iload_n 2, 1) := by decide +kernel
theorem dX9_act_125 : decode cX9_act 125 = .ok (.iconst 2, 1) := by decide +kernel
theorem dX9_act_126 : decode cX9_act 126 = .ok (.if_icmp .ne 11, 3) := by decide +kernel
theorem dX9_act_129 : decode cX9_act 129 = .ok (.aload_n 0, 1) := by decide +kernel
theorem dX9_act_130 : decode cX9_act 130 = .ok (.iload_n 3, 1) := by decide +kernel
theorem dX9_act_131 : decode cX9_act 131 = .ok (.invokevirtual 393, 3) := by decide +kernel
theorem dX9_act_134 : decode cX9_act 134 = .ok (.goto 8, 3) := by decide +kernel
theorem dX9_act_137 : decode cX9_act 137 = .ok (.aload_n 0, 1) := by decide +kernel
theorem dX9_act_138 : decode cX9_act 138 = .ok (.iload_n 3, 1) := by decide +kernel
theorem dX9_act_139 : decode cX9_act 139 = .ok (.invokevirtual 396, 3) := by decide +kernel
theorem dX9_act_142 : decode cX9_act 142 = .ok (.istore 4, 2) := by decide +kernel
theorem dX9_act_144 : decode cX9_act 144 = .ok (.aload_n 0, 1) := by decide +kernel
theorem dX9_act_145 : decode cX9_act 145 = .ok (.getfield 383, 3) := by decide +kernel
theorem dX9_act_148 : decode cX9_act 148 = .ok (.ifCond .eq 8, 3) := by decide +kernel
theorem dX9_act_151 : decode cX9_act 151 = .ok (.bipush (-15), 2) := by decide +kernel
theorem dX9_act_153 : decode cX9_act 153 = .ok (.goto 5, 3) := by decide +kernel
theorem dX9_act_156 : decode cX9_act 156 = .ok (.iload 4, 2) := by decide +kernel
theorem dX9_act_158 : decode cX9_act 158 = .ok (.ireturn, 1) := by decide +kernel
theorem dX9_trace_0 : decode cX9_trace 0 = .ok (.iload_n 1, 1) := by decide +kernel
theorem dX9_trace_1 : decode cX9_trace 1 = .ok (.iconst 0, 1) := by decide +kernel
theorem dX9_trace_2 : decode cX9_trace 2 = .ok (.aload_n 0, 1) := by decide +kernel
theorem dX9_trace_3 : decode cX9_trace 3 = .ok (.getfield 359, 3) := by decide +kernel
theorem dX9_trace_6 : decode cX9_trace 6 = .ok (.iconst 1, 1) := by decide +kernel
theorem dX9_trace_7 : decode cX9_trace 7 = .ok (.isub, 1) := by decide +kernel
theorem dX9_trace_8 : decode cX9_trace 8 = .ok (.invokestatic 93, 3) := by decide +kernel
theorem dX9_trace_11 : decode cX9_trace 11 = .ok (.ifCond .eq 12, 3) := by decide +kernel
theorem dX9_trace_14 : decode cX9_trace 14 = .ok (.aload_n 0, 1) := by decide +kernel
theorem dX9_trace_15 : decode cX9_trace 15 = .ok (.getfield 80, 3) := by decide +kernel
theorem dX9_trace_18 : decode cX9_trace 18 = .ok (.iload_n 1, 1) := by decide +kernel
theorem dX9_trace_19 : decode cX9_trace 19 = .ok (.iaload, 1) := by decide +kernel
theorem dX9_trace_20 : decode cX9_trace 20 = .ok (.goto 5, 3) := by decide +kernel
theorem dX9_trace_23 : decode cX9_trace 23 = .ok (.bipush (-3), 2) := by decide +kernel
theorem dX9_trace_25 : decode cX9_trace 25 = .ok (.ireturn, 1) := by decide +kernel
theorem dX9_many_0 : decode cX9_many 0 = .ok (.iload_n 1, 1) := by decide +kernel
theorem dX9_many_1 : decode cX9_many 1 = .ok (.tableswitch 105 0 9 #[55, 60, 65, 70, 75, 80, 85, 90, 95, 100], 55) := by decide +kernel
theorem dX9_many_56 : decode cX9_many 56 = .ok (.aload_n 0, 1) := by decide +kernel
theorem dX9_many_57 : decode cX9_many 57 = .ok (.getfield 89, 3) := by decide +kernel
theorem dX9_many_60 : decode cX9_many 60 = .ok (.ireturn, 1) := by decide +kernel
theorem dX9_many_61 : decode cX9_many 61 = .ok (.aload_n 0, 1) := by decide +kernel
theorem dX9_many_62 : decode cX9_many 62 = .ok (.getfield 97, 3) := by decide +kernel
theorem dX9_many_65 : decode cX9_many 65 = .ok (.ireturn, 1) := by decide +kernel
theorem dX9_many_66 : decode cX9_many 66 = .ok (.aload_n 0, 1) := by decide +kernel
theorem dX9_many_67 : decode cX9_many 67 = .ok (.getfield 301, 3) := by decide +kernel
theorem dX9_many_70 : decode cX9_many 70 = .ok (.ireturn, 1) := by decide +kernel
theorem dX9_many_71 : decode cX9_many 71 = .ok (.aload_n 0, 1) := by decide +kernel
theorem dX9_many_72 : decode cX9_many 72 = .ok (.getfield 177, 3) := by decide +kernel
theorem dX9_many_75 : decode cX9_many 75 = .ok (.ireturn, 1) := by decide +kernel
theorem dX9_many_76 : decode cX9_many 76 = .ok (.aload_n 0, 1) := by decide +kernel
theorem dX9_many_77 : decode cX9_many 77 = .ok (.getfield 329, 3) := by decide +kernel
theorem dX9_many_80 : decode cX9_many 80 = .ok (.ireturn, 1) := by decide +kernel
theorem dX9_many_81 : decode cX9_many 81 = .ok (.aload_n 0, 1) := by decide +kernel
theorem dX9_many_82 : decode cX9_many 82 = .ok (.getfield 133, 3) := by decide +kernel
theorem dX9_many_85 : decode cX9_many 85 = .ok (.ireturn, 1) := by decide +kernel
theorem dX9_many_86 : decode cX9_many 86 = .ok (.aload_n 0, 1) := by decide +kernel
theorem dX9_many_87 : decode cX9_many 87 = .ok (.invokevirtual 335, 3) := by decide +kernel
theorem dX9_many_90 : decode cX9_many 90 = .ok (.ireturn, 1) := by decide +kernel
theorem dX9_many_91 : decode cX9_many 91 = .ok (.aload_n 0, 1) := by decide +kernel
theorem dX9_many_92 : decode cX9_many 92 = .ok (.getfield 338, 3) := by decide +kernel
theorem dX9_many_95 : decode cX9_many 95 = .ok (.ireturn, 1) := by decide +kernel
theorem dX9_many_96 : decode cX9_many 96 = .ok (.aload_n 0, 1) := by decide +kernel
theorem dX9_many_97 : decode cX9_many 97 = .ok (.getfield 190, 3) := by decide +kernel
theorem dX9_many_100 : decode cX9_many 100 = .ok (.ireturn, 1) := by decide +kernel
theorem dX9_many_101 : decode cX9_many 101 = .ok (.aload_n 0, 1) := by decide +kernel
theorem dX9_many_102 : decode cX9_many 102 = .ok (.getfield 359, 3) := by decide +kernel
theorem dX9_many_105 : decode cX9_many 105 = .ok (.ireturn, 1) := by decide +kernel
theorem dX9_many_106 : decode cX9_many 106 = .ok (.iconst (-1), 1) := by decide +kernel
theorem dX9_many_107 : decode cX9_many 107 = .ok (.ireturn, 1) := by decide +kernel
theorem dX9_move_0 : decode cX9_move 0 = .ok (.iconst 0, 1) := by decide +kernel
theorem dX9_move_1 : decode cX9_move 1 = .ok (.istore 4, 2) := by decide +kernel
theorem dX9_move_3 : decode cX9_move 3 = .ok (.iload 4, 2) := by decide +kernel
theorem dX9_move_5 : decode cX9_move 5 = .ok (.iload_n 2, 1) := by decide +kernel
theorem dX9_move_6 : decode cX9_move 6 = .ok (.if_icmp .ge 52, 3) := by decide +kernel
theorem dX9_move_9 : decode cX9_move 9 = .ok (.iload_n 3, 1) := by decide +kernel
theorem dX9_move_10 : decode cX9_move 10 = .ok (.ifCond .eq 19, 3) := by decide +kernel
theorem dX9_move_13 : decode cX9_move 13 = .ok (.aload_n 0, 1) := by decide +kernel
theorem dX9_move_14 : decode cX9_move 14 = .ok (.getfield 83, 3) := by decide +kernel
theorem dX9_move_17 : decode cX9_move 17 = .ok (.aload_n 0, 1) := by decide +kernel
theorem dX9_move_18 : decode cX9_move 18 = .ok (.getfield 399, 3) := by decide +kernel
theorem dX9_move_21 : decode cX9_move 21 = .ok (.aload_n 1, 1) := by decide +kernel
theorem dX9_move_22 : decode cX9_move 22 = .ok (.iload 4, 2) := by decide +kernel
theorem dX9_move_24 : decode cX9_move 24 = .ok (.iaload, 1) := by decide +kernel
theorem dX9_move_25 : decode cX9_move 25 = .ok (.iastore, 1) := by decide +kernel
theorem dX9_move_26 : decode cX9_move 26 = .ok (.goto 16, 3) := by decide +kernel
theorem dX9_move_29 : decode cX9_move 29 = .ok (.aload_n 1, 1) := by decide +kernel
theorem dX9_move_30 : decode cX9_move 30 = .ok (.iload 4, 2) := by decide +kernel
theorem dX9_move_32 : decode cX9_move 32 = .ok (.aload_n 0, 1) := by decide +kernel
theorem dX9_move_33 : decode cX9_move 33 = .ok (.getfield 83, 3) := by decide +kernel
theorem dX9_move_36 : decode cX9_move 36 = .ok (.aload_n 0, 1) := by decide +kernel
theorem dX9_move_37 : decode cX9_move 37 = .ok (.getfield 399, 3) := by decide +kernel
theorem dX9_move_40 : decode cX9_move 40 = .ok (.iaload, 1) := by decide +kernel
theorem dX9_move_41 : decode cX9_move 41 = .ok (.iastore, 1) := by decide +kernel
theorem dX9_move_42 : decode cX9_move 42 = .ok (.aload_n 0, 1) := by decide +kernel
theorem dX9_move_43 : decode cX9_move 43 = .ok (.dup, 1) := by decide +kernel
theorem dX9_move_44 : decode cX9_move 44 = .ok (.getfield 399, 3) := by decide +kernel
theorem dX9_move_47 : decode cX9_move 47 = .ok (.iconst 1, 1) := by decide +kernel
theorem dX9_move_48 : decode cX9_move 48 = .ok (.iadd, 1) := by decide +kernel
theorem dX9_move_49 : decode cX9_move 49 = .ok (.putfield 399, 3) := by decide +kernel
theorem dX9_move_52 : decode cX9_move 52 = .ok (.iinc 4 1, 3) := by decide +kernel
theorem dX9_move_55 : decode cX9_move 55 = .ok (.goto (-52), 3) := by decide +kernel
theorem dX9_move_58 : decode cX9_move 58 = .ok (.return_, 1) := by decide +kernel
theorem dX9_moveAll_0 : decode cX9_moveAll 0 = .ok (.aload_n 0, 1) := by decide +kernel
theorem dX9_moveAll_1 : decode cX9_moveAll 1 = .ok (.iconst 0, 1) := by decide +kernel
theorem dX9_moveAll_2 : decode cX9_moveAll 2 = .ok (.putfield 399, 3) := by decide +kernel
theorem dX9_moveAll_5 : decode cX9_moveAll 5 = .ok (.aload_n 0, 1) := by decide +kernel
theorem dX9_moveAll_6 : decode cX9_moveAll 6 = .ok (.getfield 86, 3) := by decide +kernel
theorem dX9_moveAll_9 : decode cX9_moveAll 9 = .ok (.iconst 0, 1) := by decide +kernel
theorem dX9_moveAll_10 : decode cX9_moveAll 10 = .ok (.aload_n 0, 1) := by decide +kernel
theorem dX9_moveAll_11 : decode cX9_moveAll 11 = .ok (.getfield 89, 3) := by decide +kernel
theorem dX9_moveAll_14 : decode cX9_moveAll 14 = .ok (.iastore, 1) := by decide +kernel
theorem dX9_moveAll_15 : decode cX9_moveAll 15 = .ok (.aload_n 0, 1) := by decide +kernel
theorem dX9_moveAll_16 : decode cX9_moveAll 16 = .ok (.getfield 86, 3) := by decide +kernel
theorem dX9_moveAll_19 : decode cX9_moveAll 19 = .ok (.iconst 1, 1) := by decide +kernel
theorem dX9_moveAll_20 : decode cX9_moveAll 20 = .ok (.aload_n 0, 1) := by decide +kernel
theorem dX9_moveAll_21 : decode cX9_moveAll 21 = .ok (.getfield 97, 3) := by decide +kernel
theorem dX9_moveAll_24 : decode cX9_moveAll 24 = .ok (.iastore, 1) := by decide +kernel
theorem dX9_moveAll_25 : decode cX9_moveAll 25 = .ok (.aload_n 0, 1) := by decide +kernel
theorem dX9_moveAll_26 : decode cX9_moveAll 26 = .ok (.getfield 86, 3) := by decide +kernel
theorem dX9_moveAll_29 : decode cX9_moveAll 29 = .ok (.iconst 2, 1) := by decide +kernel
theorem dX9_moveAll_30 : decode cX9_moveAll 30 = .ok (.aload_n 0, 1) := by decide +kernel
theorem dX9_moveAll_31 : decode cX9_moveAll 31 = .ok (.getfield 177, 3) := by decide +kernel
theorem dX9_moveAll_34 : decode cX9_moveAll 34 = .ok (.iastore, 1) := by decide +kernel
theorem dX9_moveAll_35 : decode cX9_moveAll 35 = .ok (.aload_n 0, 1) := by decide +kernel
theorem dX9_moveAll_36 : decode cX9_moveAll 36 = .ok (.getfield 86, 3) := by decide +kernel
theorem dX9_moveAll_39 : decode cX9_moveAll 39 = .ok (.iconst 3, 1) := by decide +kernel
theorem dX9_moveAll_40 : decode cX9_moveAll 40 = .ok (.aload_n 0, 1) := by decide +kernel
theorem dX9_moveAll_41 : decode cX9_moveAll 41 = .ok (.getfield 329, 3) := by decide +kernel
theorem dX9_moveAll_44 : decode cX9_moveAll 44 = .ok (.iastore, 1) := by decide +kernel
theorem dX9_moveAll_45 : decode cX9_moveAll 45 = .ok (.aload_n 0, 1) := by decide +kernel
theorem dX9_moveAll_46 : decode cX9_moveAll 46 = .ok (.getfield 86, 3) := by decide +kernel
theorem dX9_moveAll_49 : decode cX9_moveAll 49 = .ok (.iconst 4, 1) := by decide +kernel
theorem dX9_moveAll_50 : decode cX9_moveAll 50 = .ok (.aload_n 0, 1) := by decide +kernel
theorem dX9_moveAll_51 : decode cX9_moveAll 51 = .ok (.getfield 133, 3) := by decide +kernel
theorem dX9_moveAll_54 : decode cX9_moveAll 54 = .ok (.iastore, 1) := by decide +kernel
theorem dX9_moveAll_55 : decode cX9_moveAll 55 = .ok (.aload_n 0, 1) := by decide +kernel
theorem dX9_moveAll_56 : decode cX9_moveAll 56 = .ok (.getfield 86, 3) := by decide +kernel
theorem dX9_moveAll_59 : decode cX9_moveAll 59 = .ok (.iconst 5, 1) := by decide +kernel
theorem dX9_moveAll_60 : decode cX9_moveAll 60 = .ok (.aload_n 0, 1) := by decide +kernel
theorem dX9_moveAll_61 : decode cX9_moveAll 61 = .ok (.getfield 301, 3) := by decide +kernel
theorem dX9_moveAll_64 : decode cX9_moveAll 64 = .ok (.iastore, 1) := by decide +kernel
theorem dX9_moveAll_65 : decode cX9_moveAll 65 = .ok (.aload_n 0, 1) := by decide +kernel
theorem dX9_moveAll_66 : decode cX9_moveAll 66 = .ok (.aload_n 0, 1) := by decide +kernel
theorem dX9_moveAll_67 : decode cX9_moveAll 67 = .ok (.getfield 86, 3) := by decide +kernel
theorem dX9_moveAll_70 : decode cX9_moveAll 70 = .ok (.bipush 6, 2) := by decide +kernel
theorem dX9_moveAll_72 : decode cX9_moveAll 72 = .ok (.iload_n 1, 1) := by decide +kernel
theorem dX9_moveAll_73 : decode cX9_moveAll 73 = .ok (.invokevirtual 402, 3) := by decide +kernel
theorem dX9_moveAll_76 : decode cX9_moveAll 76 = .ok (.aload_n 0, 1) := by decide +kernel
theorem dX9_moveAll_77 : decode cX9_moveAll 77 = .ok (.aload_n 0, 1) := by decide +kernel
theorem dX9_moveAll_78 : decode cX9_moveAll 78 = .ok (.getfield 7, 3) := by decide +kernel
theorem dX9_moveAll_81 : decode cX9_moveAll 81 = .ok (.bipush 40, 2) := by decide +kernel
theorem dX9_moveAll_83 : decode cX9_moveAll 83 = .ok (.iload_n 1, 1) := by decide +kernel
theorem dX9_moveAll_84 : decode cX9_moveAll 84 = .ok (.invokevirtual 402, 3) := by decide +kernel
theorem dX9_moveAll_87 : decode cX9_moveAll 87 = .ok (.aload_n 0, 1) := by decide +kernel
theorem dX9_moveAll_88 : decode cX9_moveAll 88 = .ok (.aload_n 0, 1) := by decide +kernel
theorem dX9_moveAll_89 : decode cX9_moveAll 89 = .ok (.getfield 13, 3) := by decide +kernel
theorem dX9_moveAll_92 : decode cX9_moveAll 92 = .ok (.sipush 180, 3) := by decide +kernel
theorem dX9_moveAll_95 : decode cX9_moveAll 95 = .ok (.iload_n 1, 1) := by decide +kernel
theorem dX9_moveAll_96 : decode cX9_moveAll 96 = .ok (.invokevirtual 402, 3) := by decide +kernel
theorem dX9_moveAll_99 : decode cX9_moveAll 99 = .ok (.aload_n 0, 1) := by decide +kernel
theorem dX9_moveAll_100 : decode cX9_moveAll 100 = .ok (.aload_n 0, 1) := by decide +kernel
theorem dX9_moveAll_101 : decode cX9_moveAll 101 = .ok (.getfield 16, 3) := by decide +kernel
theorem dX9_moveAll_104 : decode cX9_moveAll 104 = .ok (.bipush 17, 2) := by decide +kernel
theorem dX9_moveAll_106 : decode cX9_moveAll 106 = .ok (.iload_n 1, 1) := by decide +kernel
theorem dX9_moveAll_107 : decode cX9_moveAll 107 = .ok (.invokevirtual 402, 3) := by decide +kernel
theorem dX9_moveAll_110 : decode cX9_moveAll 110 = .ok (.aload_n 0, 1) := by decide +kernel
theorem dX9_moveAll_111 : decode cX9_moveAll 111 = .ok (.aload_n 0, 1) := by decide +kernel
theorem dX9_moveAll_112 : decode cX9_moveAll 112 = .ok (.getfield 19, 3) := by decide +kernel
theorem dX9_moveAll_115 : decode cX9_moveAll 115 = .ok (.bipush 80, 2) := by decide +kernel
theorem dX9_moveAll_117 : decode cX9_moveAll 117 = .ok (.iload_n 1, 1) := by decide +kernel
theorem dX9_moveAll_118 : decode cX9_moveAll 118 = .ok (.invokevirtual 402, 3) := by decide +kernel
theorem dX9_moveAll_121 : decode cX9_moveAll 121 = .ok (.aload_n 0, 1) := by decide +kernel
theorem dX9_moveAll_122 : decode cX9_moveAll 122 = .ok (.aload_n 0, 1) := by decide +kernel
theorem dX9_moveAll_123 : decode cX9_moveAll 123 = .ok (.getfield 22, 3) := by decide +kernel
theorem dX9_moveAll_126 : decode cX9_moveAll 126 = .ok (.bipush 80, 2) := by decide +kernel
theorem dX9_moveAll_128 : decode cX9_moveAll 128 = .ok (.iload_n 1, 1) := by decide +kernel
theorem dX9_moveAll_129 : decode cX9_moveAll 129 = .ok (.invokevirtual 402, 3) := by decide +kernel
theorem dX9_moveAll_132 : decode cX9_moveAll 132 = .ok (.aload_n 0, 1) := by decide +kernel
theorem dX9_moveAll_133 : decode cX9_moveAll 133 = .ok (.aload_n 0, 1) := by decide +kernel
theorem dX9_moveAll_134 : decode cX9_moveAll 134 = .ok (.getfield 25, 3) := by decide +kernel
theorem dX9_moveAll_137 : decode cX9_moveAll 137 = .ok (.bipush 32, 2) := by decide +kernel
theorem dX9_moveAll_139 : decode cX9_moveAll 139 = .ok (.iload_n 1, 1) := by decide +kernel
theorem dX9_moveAll_140 : decode cX9_moveAll 140 = .ok (.invokevirtual 402, 3) := by decide +kernel
theorem dX9_moveAll_143 : decode cX9_moveAll 143 = .ok (.aload_n 0, 1) := by decide +kernel
theorem dX9_moveAll_144 : decode cX9_moveAll 144 = .ok (.aload_n 0, 1) := by decide +kernel
theorem dX9_moveAll_145 : decode cX9_moveAll 145 = .ok (.getfield 28, 3) := by decide +kernel
theorem dX9_moveAll_148 : decode cX9_moveAll 148 = .ok (.bipush 6, 2) := by decide +kernel
theorem dX9_moveAll_150 : decode cX9_moveAll 150 = .ok (.iload_n 1, 1) := by decide +kernel
theorem dX9_moveAll_151 : decode cX9_moveAll 151 = .ok (.invokevirtual 402, 3) := by decide +kernel
theorem dX9_moveAll_154 : decode cX9_moveAll 154 = .ok (.aload_n 0, 1) := by decide +kernel
theorem dX9_moveAll_155 : decode cX9_moveAll 155 = .ok (.aload_n 0, 1) := by decide +kernel
theorem dX9_moveAll_156 : decode cX9_moveAll 156 = .ok (.getfield 31, 3) := by decide +kernel
theorem dX9_moveAll_159 : decode cX9_moveAll 159 = .ok (.bipush 6, 2) := by decide +kernel
theorem dX9_moveAll_161 : decode cX9_moveAll 161 = .ok (.iload_n 1, 1) := by decide +kernel
theorem dX9_moveAll_162 : decode cX9_moveAll 162 = .ok (.invokevirtual 402, 3) := by decide +kernel
theorem dX9_moveAll_165 : decode cX9_moveAll 165 = .ok (.aload_n 0, 1) := by decide +kernel
theorem dX9_moveAll_166 : decode cX9_moveAll 166 = .ok (.aload_n 0, 1) := by decide +kernel
theorem dX9_moveAll_167 : decode cX9_moveAll 167 = .ok (.getfield 34, 3) := by decide +kernel
theorem dX9_moveAll_170 : decode cX9_moveAll 170 = .ok (.sipush 210, 3) := by decide +kernel
theorem dX9_moveAll_173 : decode cX9_moveAll 173 = .ok (.iload_n 1, 1) := by decide +kernel
theorem dX9_moveAll_174 : decode cX9_moveAll 174 = .ok (.invokevirtual 402, 3) := by decide +kernel
theorem dX9_moveAll_177 : decode cX9_moveAll 177 = .ok (.return_, 1) := by decide +kernel
theorem dX9_keep_0 : decode cX9_keep 0 = .ok (.aload_n 0, 1) := by decide +kernel
theorem dX9_keep_1 : decode cX9_keep 1 = .ok (.iconst 1, 1) := by decide +kernel
theorem dX9_keep_2 : decode cX9_keep 2 = .ok (.invokevirtual 406, 3) := by decide +kernel
theorem dX9_keep_5 : decode cX9_keep 5 = .ok (.aload_n 0, 1) := by decide +kernel
theorem dX9_keep_6 : decode cX9_keep 6 = .ok (.iconst 1, 1) := by decide +kernel
theorem dX9_keep_7 : decode cX9_keep 7 = .ok (.putfield 409, 3) := by decide +kernel
theorem dX9_keep_10 : decode cX9_keep 10 = .ok (.iconst 1, 1) := by decide +kernel
theorem dX9_keep_11 : decode cX9_keep 11 = .ok (.ireturn, 1) := by decide +kernel
theorem dX9_again_0 : decode cX9_again 0 = .ok (.aload_n 0, 1) := by decide +kernel
theorem dX9_again_1 : decode cX9_again 1 = .ok (.getfield 409, 3) := by decide +kernel
theorem dX9_again_4 : decode cX9_again 4 = .ok (.ifCond .ne 6, 3) := by decide +kernel
theorem dX9_again_7 : decode cX9_again 7 = .ok (.bipush (-3), 2) := by decide +kernel
theorem dX9_again_9 : decode cX9_again 9 = .ok (.ireturn, 1) := by decide +kernel
theorem dX9_again_10 : decode cX9_again 10 = .ok (.aload_n 0, 1) := by decide +kernel
theorem dX9_again_11 : decode cX9_again 11 = .ok (.iconst 0, 1) := by decide +kernel
theorem dX9_again_12 : decode cX9_again 12 = .ok (.invokevirtual 406, 3) := by decide +kernel
theorem dX9_again_15 : decode cX9_again 15 = .ok (.aload_n 0, 1) := by decide +kernel
theorem dX9_again_16 : decode cX9_again 16 = .ok (.aload_n 0, 1) := by decide +kernel
theorem dX9_again_17 : decode cX9_again 17 = .ok (.getfield 86, 3) := by decide +kernel
theorem dX9_again_20 : decode cX9_again 20 = .ok (.iconst 0, 1) := by decide +kernel
theorem dX9_again_21 : decode cX9_again 21 = .ok (.iaload, 1) := by decide +kernel
theorem dX9_again_22 : decode cX9_again 22 = .ok (.putfield 89, 3) := by decide +kernel
theorem dX9_again_25 : decode cX9_again 25 = .ok (.aload_n 0, 1) := by decide +kernel
theorem dX9_again_26 : decode cX9_again 26 = .ok (.aload_n 0, 1) := by decide +kernel
theorem dX9_again_27 : decode cX9_again 27 = .ok (.getfield 86, 3) := by decide +kernel
theorem dX9_again_30 : decode cX9_again 30 = .ok (.iconst 1, 1) := by decide +kernel
theorem dX9_again_31 : decode cX9_again 31 = .ok (.iaload, 1) := by decide +kernel
theorem dX9_again_32 : decode cX9_again 32 = .ok (.putfield 97, 3) := by decide +kernel
theorem dX9_again_35 : decode cX9_again 35 = .ok (.aload_n 0, 1) := by decide +kernel
theorem dX9_again_36 : decode cX9_again 36 = .ok (.aload_n 0, 1) := by decide +kernel
theorem dX9_again_37 : decode cX9_again 37 = .ok (.getfield 86, 3) := by decide +kernel
theorem dX9_again_40 : decode cX9_again 40 = .ok (.iconst 2, 1) := by decide +kernel
theorem dX9_again_41 : decode cX9_again 41 = .ok (.iaload, 1) := by decide +kernel
theorem dX9_again_42 : decode cX9_again 42 = .ok (.putfield 177, 3) := by decide +kernel
theorem dX9_again_45 : decode cX9_again 45 = .ok (.aload_n 0, 1) := by decide +kernel
theorem dX9_again_46 : decode cX9_again 46 = .ok (.aload_n 0, 1) := by decide +kernel
theorem dX9_again_47 : decode cX9_again 47 = .ok (.getfield 86, 3) := by decide +kernel
theorem dX9_again_50 : decode cX9_again 50 = .ok (.iconst 3, 1) := by decide +kernel
theorem dX9_again_51 : decode cX9_again 51 = .ok (.iaload, 1) := by decide +kernel
theorem dX9_again_52 : decode cX9_again 52 = .ok (.putfield 329, 3) := by decide +kernel
theorem dX9_again_55 : decode cX9_again 55 = .ok (.aload_n 0, 1) := by decide +kernel
theorem dX9_again_56 : decode cX9_again 56 = .ok (.aload_n 0, 1) := by decide +kernel
theorem dX9_again_57 : decode cX9_again 57 = .ok (.getfield 86, 3) := by decide +kernel
theorem dX9_again_60 : decode cX9_again 60 = .ok (.iconst 4, 1) := by decide +kernel
theorem dX9_again_61 : decode cX9_again 61 = .ok (.iaload, 1) := by decide +kernel
theorem dX9_again_62 : decode cX9_again 62 = .ok (.putfield 133, 3) := by decide +kernel
theorem dX9_again_65 : decode cX9_again 65 = .ok (.aload_n 0, 1) := by decide +kernel
theorem dX9_again_66 : decode cX9_again 66 = .ok (.aload_n 0, 1) := by decide +kernel
theorem dX9_again_67 : decode cX9_again 67 = .ok (.getfield 86, 3) := by decide +kernel
theorem dX9_again_70 : decode cX9_again 70 = .ok (.iconst 5, 1) := by decide +kernel
theorem dX9_again_71 : decode cX9_again 71 = .ok (.iaload, 1) := by decide +kernel
theorem dX9_again_72 : decode cX9_again 72 = .ok (.putfield 301, 3) := by decide +kernel
theorem dX9_again_75 : decode cX9_again 75 = .ok (.iconst 1, 1) := by decide +kernel
theorem dX9_again_76 : decode cX9_again 76 = .ok (.ireturn, 1) := by decide +kernel
theorem dJ6_bitCount_0f7a4_0 : decode cJ6_bitCount_0f7a4 0 = .ok (.iload_n 0, 1) := by decide +kernel
theorem dJ6_bitCount_0f7a4_1 : decode cJ6_bitCount_0f7a4 1 = .ok (.iload_n 0, 1) := by decide +kernel
theorem dJ6_bitCount_0f7a4_2 : decode cJ6_bitCount_0f7a4 2 = .ok (.iconst 1, 1) := by decide +kernel
theorem dJ6_bitCount_0f7a4_3 : decode cJ6_bitCount_0f7a4 3 = .ok (.iushr, 1) := by decide +kernel
theorem dJ6_bitCount_0f7a4_4 : decode cJ6_bitCount_0f7a4 4 = .ok (.ldc_w 265, 3) := by decide +kernel
theorem dJ6_bitCount_0f7a4_7 : decode cJ6_bitCount_0f7a4 7 = .ok (.iand, 1) := by decide +kernel
theorem dJ6_bitCount_0f7a4_8 : decode cJ6_bitCount_0f7a4 8 = .ok (.isub, 1) := by decide +kernel
theorem dJ6_bitCount_0f7a4_9 : decode cJ6_bitCount_0f7a4 9 = .ok (.istore_n 0, 1) := by decide +kernel
theorem dJ6_bitCount_0f7a4_10 : decode cJ6_bitCount_0f7a4 10 = .ok (.iload_n 0, 1) := by decide +kernel
theorem dJ6_bitCount_0f7a4_11 : decode cJ6_bitCount_0f7a4 11 = .ok (.ldc_w 266, 3) := by decide +kernel
theorem dJ6_bitCount_0f7a4_14 : decode cJ6_bitCount_0f7a4 14 = .ok (.iand, 1) := by decide +kernel
theorem dJ6_bitCount_0f7a4_15 : decode cJ6_bitCount_0f7a4 15 = .ok (.iload_n 0, 1) := by decide +kernel
theorem dJ6_bitCount_0f7a4_16 : decode cJ6_bitCount_0f7a4 16 = .ok (.iconst 2, 1) := by decide +kernel
theorem dJ6_bitCount_0f7a4_17 : decode cJ6_bitCount_0f7a4 17 = .ok (.iushr, 1) := by decide +kernel
theorem dJ6_bitCount_0f7a4_18 : decode cJ6_bitCount_0f7a4 18 = .ok (.ldc_w 266, 3) := by decide +kernel
theorem dJ6_bitCount_0f7a4_21 : decode cJ6_bitCount_0f7a4 21 = .ok (.iand, 1) := by decide +kernel
theorem dJ6_bitCount_0f7a4_22 : decode cJ6_bitCount_0f7a4 22 = .ok (.iadd, 1) := by decide +kernel
theorem dJ6_bitCount_0f7a4_23 : decode cJ6_bitCount_0f7a4 23 = .ok (.istore_n 0, 1) := by decide +kernel
theorem dJ6_bitCount_0f7a4_24 : decode cJ6_bitCount_0f7a4 24 = .ok (.iload_n 0, 1) := by decide +kernel
theorem dJ6_bitCount_0f7a4_25 : decode cJ6_bitCount_0f7a4 25 = .ok (.iload_n 0, 1) := by decide +kernel
theorem dJ6_bitCount_0f7a4_26 : decode cJ6_bitCount_0f7a4 26 = .ok (.iconst 4, 1) := by decide +kernel
theorem dJ6_bitCount_0f7a4_27 : decode cJ6_bitCount_0f7a4 27 = .ok (.iushr, 1) := by decide +kernel
theorem dJ6_bitCount_0f7a4_28 : decode cJ6_bitCount_0f7a4 28 = .ok (.iadd, 1) := by decide +kernel
theorem dJ6_bitCount_0f7a4_29 : decode cJ6_bitCount_0f7a4 29 = .ok (.ldc_w 267, 3) := by decide +kernel
theorem dJ6_bitCount_0f7a4_32 : decode cJ6_bitCount_0f7a4 32 = .ok (.iand, 1) := by decide +kernel
theorem dJ6_bitCount_0f7a4_33 : decode cJ6_bitCount_0f7a4 33 = .ok (.istore_n 0, 1) := by decide +kernel
theorem dJ6_bitCount_0f7a4_34 : decode cJ6_bitCount_0f7a4 34 = .ok (.iload_n 0, 1) := by decide +kernel
theorem dJ6_bitCount_0f7a4_35 : decode cJ6_bitCount_0f7a4 35 = .ok (.iload_n 0, 1) := by decide +kernel
theorem dJ6_bitCount_0f7a4_36 : decode cJ6_bitCount_0f7a4 36 = .ok (.bipush 8, 2) := by decide +kernel
theorem dJ6_bitCount_0f7a4_38 : decode cJ6_bitCount_0f7a4 38 = .ok (.iushr, 1) := by decide +kernel
theorem dJ6_bitCount_0f7a4_39 : decode cJ6_bitCount_0f7a4 39 = .ok (.iadd, 1) := by decide +kernel
theorem dJ6_bitCount_0f7a4_40 : decode cJ6_bitCount_0f7a4 40 = .ok (.istore_n 0, 1) := by decide +kernel
theorem dJ6_bitCount_0f7a4_41 : decode cJ6_bitCount_0f7a4 41 = .ok (.iload_n 0, 1) := by decide +kernel
theorem dJ6_bitCount_0f7a4_42 : decode cJ6_bitCount_0f7a4 42 = .ok (.iload_n 0, 1) := by decide +kernel
theorem dJ6_bitCount_0f7a4_43 : decode cJ6_bitCount_0f7a4 43 = .ok (.bipush 16, 2) := by decide +kernel
theorem dJ6_bitCount_0f7a4_45 : decode cJ6_bitCount_0f7a4 45 = .ok (.iushr, 1) := by decide +kernel
theorem dJ6_bitCount_0f7a4_46 : decode cJ6_bitCount_0f7a4 46 = .ok (.iadd, 1) := by decide +kernel
theorem dJ6_bitCount_0f7a4_47 : decode cJ6_bitCount_0f7a4 47 = .ok (.istore_n 0, 1) := by decide +kernel
theorem dJ6_bitCount_0f7a4_48 : decode cJ6_bitCount_0f7a4 48 = .ok (.iload_n 0, 1) := by decide +kernel
theorem dJ6_bitCount_0f7a4_49 : decode cJ6_bitCount_0f7a4 49 = .ok (.bipush 63, 2) := by decide +kernel
theorem dJ6_bitCount_0f7a4_51 : decode cJ6_bitCount_0f7a4 51 = .ok (.iand, 1) := by decide +kernel
theorem dJ6_bitCount_0f7a4_52 : decode cJ6_bitCount_0f7a4 52 = .ok (.ireturn, 1) := by decide +kernel
theorem dJ9_max_7cf53_0 : decode cJ9_max_7cf53 0 = .ok (.iload_n 0, 1) := by decide +kernel
theorem dJ9_max_7cf53_1 : decode cJ9_max_7cf53 1 = .ok (.iload_n 1, 1) := by decide +kernel
theorem dJ9_max_7cf53_2 : decode cJ9_max_7cf53 2 = .ok (.if_icmp .lt 7, 3) := by decide +kernel
theorem dJ9_max_7cf53_5 : decode cJ9_max_7cf53 5 = .ok (.iload_n 0, 1) := by decide +kernel
theorem dJ9_max_7cf53_6 : decode cJ9_max_7cf53 6 = .ok (.goto 4, 3) := by decide +kernel
theorem dJ9_max_7cf53_9 : decode cJ9_max_7cf53 9 = .ok (.iload_n 1, 1) := by decide +kernel
theorem dJ9_max_7cf53_10 : decode cJ9_max_7cf53 10 = .ok (.ireturn, 1) := by decide +kernel
theorem dJ9_max_f86c9_0 : decode cJ9_max_f86c9 0 = .ok (.lload_n 0, 1) := by decide +kernel
theorem dJ9_max_f86c9_1 : decode cJ9_max_f86c9 1 = .ok (.lload_n 2, 1) := by decide +kernel
theorem dJ9_max_f86c9_2 : decode cJ9_max_f86c9 2 = .ok (.lcmp, 1) := by decide +kernel
theorem dJ9_max_f86c9_3 : decode cJ9_max_f86c9 3 = .ok (.ifCond .lt 7, 3) := by decide +kernel
theorem dJ9_max_f86c9_6 : decode cJ9_max_f86c9 6 = .ok (.lload_n 0, 1) := by decide +kernel
theorem dJ9_max_f86c9_7 : decode cJ9_max_f86c9 7 = .ok (.goto 4, 3) := by decide +kernel
theorem dJ9_max_f86c9_10 : decode cJ9_max_f86c9 10 = .ok (.lload_n 2, 1) := by decide +kernel
theorem dJ9_max_f86c9_11 : decode cJ9_max_f86c9 11 = .ok (.lreturn, 1) := by decide +kernel
theorem dJ9_min_7cf53_0 : decode cJ9_min_7cf53 0 = .ok (.iload_n 0, 1) := by decide +kernel
theorem dJ9_min_7cf53_1 : decode cJ9_min_7cf53 1 = .ok (.iload_n 1, 1) := by decide +kernel
theorem dJ9_min_7cf53_2 : decode cJ9_min_7cf53 2 = .ok (.if_icmp .gt 7, 3) := by decide +kernel
theorem dJ9_min_7cf53_5 : decode cJ9_min_7cf53 5 = .ok (.iload_n 0, 1) := by decide +kernel
theorem dJ9_min_7cf53_6 : decode cJ9_min_7cf53 6 = .ok (.goto 4, 3) := by decide +kernel
theorem dJ9_min_7cf53_9 : decode cJ9_min_7cf53 9 = .ok (.iload_n 1, 1) := by decide +kernel
theorem dJ9_min_7cf53_10 : decode cJ9_min_7cf53 10 = .ok (.ireturn, 1) := by decide +kernel
theorem dJ0_length_8abf5_0 : decode cJ0_length_8abf5 0 = .ok (.aload_n 0, 1) := by decide +kernel
theorem dJ0_length_8abf5_1 : decode cJ0_length_8abf5 1 = .ok (.getfield 9, 3) := by decide +kernel
theorem dJ0_length_8abf5_4 : decode cJ0_length_8abf5 4 = .ok (.arraylength, 1) := by decide +kernel
theorem dJ0_length_8abf5_5 : decode cJ0_length_8abf5 5 = .ok (.aload_n 0, 1) := by decide +kernel
theorem dJ0_length_8abf5_6 : decode cJ0_length_8abf5 6 = .ok (.invokevirtual 335, 3) := by decide +kernel
theorem dJ0_length_8abf5_9 : decode cJ0_length_8abf5 9 = .ok (.ishr, 1) := by decide +kernel
theorem dJ0_length_8abf5_10 : decode cJ0_length_8abf5 10 = .ok (.ireturn, 1) := by decide +kernel
theorem dJ0_charAt_5068e_0 : decode cJ0_charAt_5068e 0 = .ok (.aload_n 0, 1) := by decide +kernel
theorem dJ0_charAt_5068e_1 : decode cJ0_charAt_5068e 1 = .ok (.invokevirtual 492, 3) := by decide +kernel
theorem dJ0_charAt_5068e_4 : decode cJ0_charAt_5068e 4 = .ok (.ifCond .eq 12, 3) := by decide +kernel
theorem dJ0_charAt_5068e_7 : decode cJ0_charAt_5068e 7 = .ok (.aload_n 0, 1) := by decide +kernel
theorem dJ0_charAt_5068e_8 : decode cJ0_charAt_5068e 8 = .ok (.getfield 9, 3) := by decide +kernel
theorem dJ0_charAt_5068e_11 : decode cJ0_charAt_5068e 11 = .ok (.iload_n 1, 1) := by decide +kernel
theorem dJ0_charAt_5068e_12 : decode cJ0_charAt_5068e 12 = .ok (.invokestatic 495, 3) := by decide +kernel
theorem dJ0_charAt_5068e_15 : decode cJ0_charAt_5068e 15 = .ok (.ireturn, 1) := by decide +kernel
theorem dJ0_charAt_5068e_16 : decode cJ0_charAt_5068e 16 = .ok (.aload_n 0, 1) := by decide +kernel
theorem dJ0_charAt_5068e_17 : decode cJ0_charAt_5068e 17 = .ok (.getfield 9, 3) := by decide +kernel
theorem dJ0_charAt_5068e_20 : decode cJ0_charAt_5068e 20 = .ok (.iload_n 1, 1) := by decide +kernel
theorem dJ0_charAt_5068e_21 : decode cJ0_charAt_5068e 21 = .ok (.invokestatic 498, 3) := by decide +kernel
theorem dJ0_charAt_5068e_24 : decode cJ0_charAt_5068e 24 = .ok (.ireturn, 1) := by decide +kernel
theorem dJ0_coder_7d493_0 : decode cJ0_coder_7d493 0 = .ok (.getstatic 38, 3) := by decide +kernel
theorem dJ0_coder_7d493_3 : decode cJ0_coder_7d493 3 = .ok (.ifCond .eq 10, 3) := by decide +kernel
theorem dJ0_coder_7d493_6 : decode cJ0_coder_7d493 6 = .ok (.aload_n 0, 1) := by decide +kernel
theorem dJ0_coder_7d493_7 : decode cJ0_coder_7d493 7 = .ok (.getfield 15, 3) := by decide +kernel
theorem dJ0_coder_7d493_10 : decode cJ0_coder_7d493 10 = .ok (.goto 4, 3) := by decide +kernel
theorem dJ0_coder_7d493_13 : decode cJ0_coder_7d493 13 = .ok (.iconst 1, 1) := by decide +kernel
theorem dJ0_coder_7d493_14 : decode cJ0_coder_7d493 14 = .ok (.ireturn, 1) := by decide +kernel
theorem dJ0_isLatin1_aae02_0 : decode cJ0_isLatin1_aae02 0 = .ok (.getstatic 38, 3) := by decide +kernel
theorem dJ0_isLatin1_aae02_3 : decode cJ0_isLatin1_aae02 3 = .ok (.ifCond .eq 14, 3) := by decide +kernel
theorem dJ0_isLatin1_aae02_6 : decode cJ0_isLatin1_aae02 6 = .ok (.aload_n 0, 1) := by decide +kernel
theorem dJ0_isLatin1_aae02_7 : decode cJ0_isLatin1_aae02 7 = .ok (.getfield 15, 3) := by decide +kernel
theorem dJ0_isLatin1_aae02_10 : decode cJ0_isLatin1_aae02 10 = .ok (.ifCond .ne 7, 3) := by decide +kernel
theorem dJ0_isLatin1_aae02_13 : decode cJ0_isLatin1_aae02 13 = .ok (.iconst 1, 1) := by decide +kernel
theorem dJ0_isLatin1_aae02_14 : decode cJ0_isLatin1_aae02 14 = .ok (.goto 4, 3) := by decide +kernel
theorem dJ0_isLatin1_aae02_17 : decode cJ0_isLatin1_aae02 17 = .ok (.iconst 0, 1) := by decide +kernel
theorem dJ0_isLatin1_aae02_18 : decode cJ0_isLatin1_aae02 18 = .ok (.ireturn, 1) := by decide +kernel
theorem dJ0_checkIndex_df160_0 : decode cJ0_checkIndex_df160 0 = .ok (.iload_n 0, 1) := by decide +kernel
theorem dJ0_checkIndex_df160_1 : decode cJ0_checkIndex_df160 1 = .ok (.iload_n 1, 1) := by decide +kernel
theorem dJ0_checkIndex_df160_2 : decode cJ0_checkIndex_df160 2 = .ok (.getstatic 1053, 3) := by decide +kernel
theorem dJ0_checkIndex_df160_5 : decode cJ0_checkIndex_df160 5 = .ok (.invokestatic 1059, 3) := by decide +kernel
theorem dJ0_checkIndex_df160_8 : decode cJ0_checkIndex_df160 8 = .ok (.pop, 1) := by decide +kernel
theorem dJ0_checkIndex_df160_9 : decode cJ0_checkIndex_df160 9 = .ok (.return_, 1) := by decide +kernel
theorem dJ1_charAt_3b067_0 : decode cJ1_charAt_3b067 0 = .ok (.iload_n 1, 1) := by decide +kernel
theorem dJ1_charAt_3b067_1 : decode cJ1_charAt_3b067 1 = .ok (.aload_n 0, 1) := by decide +kernel
theorem dJ1_charAt_3b067_2 : decode cJ1_charAt_3b067 2 = .ok (.arraylength, 1) := by decide +kernel
theorem dJ1_charAt_3b067_3 : decode cJ1_charAt_3b067 3 = .ok (.invokestatic 9, 3) := by decide +kernel
theorem dJ1_charAt_3b067_6 : decode cJ1_charAt_3b067 6 = .ok (.aload_n 0, 1) := by decide +kernel
theorem dJ1_charAt_3b067_7 : decode cJ1_charAt_3b067 7 = .ok (.iload_n 1, 1) := by decide +kernel
theorem dJ1_charAt_3b067_8 : decode cJ1_charAt_3b067 8 = .ok (.baload, 1) := by decide +kernel
theorem dJ1_charAt_3b067_9 : decode cJ1_charAt_3b067 9 = .ok (.sipush 255, 3) := by decide +kernel
theorem dJ1_charAt_3b067_12 : decode cJ1_charAt_3b067 12 = .ok (.iand, 1) := by decide +kernel
theorem dJ1_charAt_3b067_13 : decode cJ1_charAt_3b067 13 = .ok (.i2c, 1) := by decide +kernel
theorem dJ1_charAt_3b067_14 : decode cJ1_charAt_3b067 14 = .ok (.ireturn, 1) := by decide +kernel
theorem dJ2_getChar_3b067_0 : decode cJ2_getChar_3b067 0 = .ok (.getstatic 44, 3) := by decide +kernel
theorem dJ2_getChar_3b067_3 : decode cJ2_getChar_3b067 3 = .ok (.ifCond .ne 25, 3) := by decide +kernel
theorem dJ2_getChar_3b067_6 : decode cJ2_getChar_3b067 6 = .ok (.iload_n 1, 1) := by decide +kernel
theorem dJ2_getChar_3b067_7 : decode cJ2_getChar_3b067 7 = .ok (.ifCond .lt 11, 3) := by decide +kernel
theorem dJ2_getChar_3b067_10 : decode cJ2_getChar_3b067 10 = .ok (.iload_n 1, 1) := by decide +kernel
theorem dJ2_getChar_3b067_11 : decode cJ2_getChar_3b067 11 = .ok (.aload_n 0, 1) := by decide +kernel
theorem dJ2_getChar_3b067_12 : decode cJ2_getChar_3b067 12 = .ok (.invokestatic 48, 3) := by decide +kernel
theorem dJ2_getChar_3b067_15 : decode cJ2_getChar_3b067 15 = .ok (.if_icmp .lt 13, 3) := by decide +kernel
theorem dJ2_getChar_3b067_18 : decode cJ2_getChar_3b067 18 = .ok (.new 52, 3) := by decide +kernel
theorem dJ2_getChar_3b067_21 : decode cJ2_getChar_3b067 21 = .ok (.dup, 1) := by decide +kernel
theorem dJ2_getChar_3b067_22 : decode cJ2_getChar_3b067 22 = .ok (.ldc 54, 2) := by decide +kernel
theorem dJ2_getChar_3b067_24 : decode cJ2_getChar_3b067 24 = .ok (.invokespecial 56, 3) := by decide +kernel
theorem dJ2_getChar_3b067_27 : decode cJ2_getChar_3b067 27 = .ok (.athrow, 1) := by decide +kernel
theorem dJ2_getChar_3b067_28 : decode cJ2_getChar_3b067 28 = .ok (.iload_n 1, 1) := by decide +kernel
theorem dJ2_getChar_3b067_29 : decode cJ2_getChar_3b067 29 = .ok (.iconst 1, 1) := by decide +kernel
theorem dJ2_getChar_3b067_30 : decode cJ2_getChar_3b067 30 = .ok (.ishl, 1) := by decide +kernel
theorem dJ2_getChar_3b067_31 : decode cJ2_getChar_3b067 31 = .ok (.istore_n 1, 1) := by decide +kernel
theorem dJ2_getChar_3b067_32 : decode cJ2_getChar_3b067 32 = .ok (.aload_n 0, 1) := by decide +kernel
theorem dJ2_getChar_3b067_33 : decode cJ2_getChar_3b067 33 = .ok (.iload_n 1, 1) := by decide +kernel
theorem dJ2_getChar_3b067_34 : decode cJ2_getChar_3b067 34 = .ok (.iinc 1 1, 3) := by decide +kernel
theorem dJ2_getChar_3b067_37 : decode cJ2_getChar_3b067 37 = .ok (.baload, 1) := by decide +kernel
theorem dJ2_getChar_3b067_38 : decode cJ2_getChar_3b067 38 = .ok (.sipush 255, 3) := by decide +kernel
theorem dJ2_getChar_3b067_41 : decode cJ2_getChar_3b067 41 = .ok (.iand, 1) := by decide +kernel
theorem dJ2_getChar_3b067_42 : decode cJ2_getChar_3b067 42 = .ok (.getstatic 59, 3) := by decide +kernel
theorem dJ2_getChar_3b067_45 : decode cJ2_getChar_3b067 45 = .ok (.ishl, 1) := by decide +kernel
theorem dJ2_getChar_3b067_46 : decode cJ2_getChar_3b067 46 = .ok (.aload_n 0, 1) := by decide +kernel
theorem dJ2_getChar_3b067_47 : decode cJ2_getChar_3b067 47 = .ok (.iload_n 1, 1) := by decide +kernel
theorem dJ2_getChar_3b067_48 : decode cJ2_getChar_3b067 48 = .ok (.baload, 1) := by decide +kernel
theorem dJ2_getChar_3b067_49 : decode cJ2_getChar_3b067 49 = .ok (.sipush 255, 3) := by decide +kernel
theorem dJ2_getChar_3b067_52 : decode cJ2_getChar_3b067 52 = .ok (.iand, 1) := by decide +kernel
theorem dJ2_getChar_3b067_53 : decode cJ2_getChar_3b067 53 = .ok (.getstatic 63, 3) := by decide +kernel
theorem dJ2_getChar_3b067_56 : decode cJ2_getChar_3b067 56 = .ok (.ishl, 1) := by decide +kernel
theorem dJ2_getChar_3b067_57 : decode cJ2_getChar_3b067 57 = .ok (.ior, 1) := by decide +kernel
theorem dJ2_getChar_3b067_58 : decode cJ2_getChar_3b067 58 = .ok (.i2c, 1) := by decide +kernel
theorem dJ2_getChar_3b067_59 : decode cJ2_getChar_3b067 59 = .ok (.ireturn, 1) := by decide +kernel
theorem dJ2_length_9d52b_0 : decode cJ2_length_9d52b 0 = .ok (.aload_n 0, 1) := by decide +kernel
theorem dJ2_length_9d52b_1 : decode cJ2_length_9d52b 1 = .ok (.arraylength, 1) := by decide +kernel
theorem dJ2_length_9d52b_2 : decode cJ2_length_9d52b 2 = .ok (.iconst 1, 1) := by decide +kernel
theorem dJ2_length_9d52b_3 : decode cJ2_length_9d52b 3 = .ok (.ishr, 1) := by decide +kernel
theorem dJ2_length_9d52b_4 : decode cJ2_length_9d52b 4 = .ok (.ireturn, 1) := by decide +kernel
theorem dJ2_charAt_3b067_0 : decode cJ2_charAt_3b067 0 = .ok (.iload_n 1, 1) := by decide +kernel
theorem dJ2_charAt_3b067_1 : decode cJ2_charAt_3b067 1 = .ok (.aload_n 0, 1) := by decide +kernel
theorem dJ2_charAt_3b067_2 : decode cJ2_charAt_3b067 2 = .ok (.invokestatic 67, 3) := by decide +kernel
theorem dJ2_charAt_3b067_5 : decode cJ2_charAt_3b067 5 = .ok (.aload_n 0, 1) := by decide +kernel
theorem dJ2_charAt_3b067_6 : decode cJ2_charAt_3b067 6 = .ok (.iload_n 1, 1) := by decide +kernel
theorem dJ2_charAt_3b067_7 : decode cJ2_charAt_3b067 7 = .ok (.invokestatic 71, 3) := by decide +kernel
theorem dJ2_charAt_3b067_10 : decode cJ2_charAt_3b067 10 = .ok (.ireturn, 1) := by decide +kernel
theorem dJ2_checkIndex_2214a_0 : decode cJ2_checkIndex_2214a 0 = .ok (.iload_n 0, 1) := by decide +kernel
theorem dJ2_checkIndex_2214a_1 : decode cJ2_checkIndex_2214a 1 = .ok (.aload_n 1, 1) := by decide +kernel
theorem dJ2_checkIndex_2214a_2 : decode cJ2_checkIndex_2214a 2 = .ok (.invokestatic 48, 3) := by decide +kernel
theorem dJ2_checkIndex_2214a_5 : decode cJ2_checkIndex_2214a 5 = .ok (.invokestatic 414, 3) := by decide +kernel
theorem dJ2_checkIndex_2214a_8 : decode cJ2_checkIndex_2214a 8 = .ok (.return_, 1) := by decide +kernel
theorem dJ7_fill_53178_0 : decode cJ7_fill_53178 0 = .ok (.iconst 0, 1) := by decide +kernel
theorem dJ7_fill_53178_1 : decode cJ7_fill_53178 1 = .ok (.istore_n 2, 1) := by decide +kernel
theorem dJ7_fill_53178_2 : decode cJ7_fill_53178 2 = .ok (.aload_n 0, 1) := by decide +kernel
theorem dJ7_fill_53178_3 : decode cJ7_fill_53178 3 = .ok (.arraylength, 1) := by decide +kernel
theorem dJ7_fill_53178_4 : decode cJ7_fill_53178 4 = .ok (.istore_n 3, 1) := by decide +kernel
theorem dJ7_fill_53178_5 : decode cJ7_fill_53178 5 = .ok (.iload_n 2, 1) := by decide +kernel
theorem dJ7_fill_53178_6 : decode cJ7_fill_53178 6 = .ok (.iload_n 3, 1) := by decide +kernel
theorem dJ7_fill_53178_7 : decode cJ7_fill_53178 7 = .ok (.if_icmp .ge 13, 3) := by decide +kernel
theorem dJ7_fill_53178_10 : decode cJ7_fill_53178 10 = .ok (.aload_n 0, 1) := by decide +kernel
theorem dJ7_fill_53178_11 : decode cJ7_fill_53178 11 = .ok (.iload_n 2, 1) := by decide +kernel
theorem dJ7_fill_53178_12 : decode cJ7_fill_53178 12 = .ok (.iload_n 1, 1) := by decide +kernel
theorem dJ7_fill_53178_13 : decode cJ7_fill_53178 13 = .ok (.iastore, 1) := by decide +kernel
theorem dJ7_fill_53178_14 : decode cJ7_fill_53178 14 = .ok (.iinc 2 1, 3) := by decide +kernel
theorem dJ7_fill_53178_17 : decode cJ7_fill_53178 17 = .ok (.goto (-12), 3) := by decide +kernel
theorem dJ7_fill_53178_20 : decode cJ7_fill_53178 20 = .ok (.return_, 1) := by decide +kernel
theorem dJ3_checkIndex_8e157_0 : decode cJ3_checkIndex_8e157 0 = .ok (.iload_n 0, 1) := by decide +kernel
theorem dJ3_checkIndex_8e157_1 : decode cJ3_checkIndex_8e157 1 = .ok (.ifCond .lt 8, 3) := by decide +kernel
theorem dJ3_checkIndex_8e157_4 : decode cJ3_checkIndex_8e157 4 = .ok (.iload_n 0, 1) := by decide +kernel
theorem dJ3_checkIndex_8e157_5 : decode cJ3_checkIndex_8e157 5 = .ok (.iload_n 1, 1) := by decide +kernel
theorem dJ3_checkIndex_8e157_6 : decode cJ3_checkIndex_8e157 6 = .ok (.if_icmp .lt 10, 3) := by decide +kernel
theorem dJ3_checkIndex_8e157_9 : decode cJ3_checkIndex_8e157 9 = .ok (.aload_n 2, 1) := by decide +kernel
theorem dJ3_checkIndex_8e157_10 : decode cJ3_checkIndex_8e157 10 = .ok (.iload_n 0, 1) := by decide +kernel
theorem dJ3_checkIndex_8e157_11 : decode cJ3_checkIndex_8e157 11 = .ok (.iload_n 1, 1) := by decide +kernel
theorem dJ3_checkIndex_8e157_12 : decode cJ3_checkIndex_8e157 12 = .ok (.invokestatic 95, 3) := by decide +kernel
theorem dJ3_checkIndex_8e157_15 : decode cJ3_checkIndex_8e157 15 = .ok (.athrow, 1) := by decide +kernel
theorem dJ3_checkIndex_8e157_16 : decode cJ3_checkIndex_8e157 16 = .ok (.iload_n 0, 1) := by decide +kernel
theorem dJ3_checkIndex_8e157_17 : decode cJ3_checkIndex_8e157 17 = .ok (.ireturn, 1) := by decide +kernel
