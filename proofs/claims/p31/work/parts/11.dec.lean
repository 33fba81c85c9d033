theorem dX0_init_0 : decode cX0_init 0 = .ok (.aload_n 0, 1) := by decide +kernel
theorem dX0_init_1 : decode cX0_init 1 = .ok (.invokespecial 3, 3) := by decide +kernel
theorem dX0_init_4 : decode cX0_init 4 = .ok (.aload_n 0, 1) := by decide +kernel
theorem dX0_init_5 : decode cX0_init 5 = .ok (.bipush 24, 2) := by decide +kernel
theorem dX0_init_7 : decode cX0_init 7 = .ok (.newarray .int, 2) := by decide +kernel
theorem dX0_init_9 : decode cX0_init 9 = .ok (.putfield 9, 3) := by decide +kernel
theorem dX0_init_12 : decode cX0_init 12 = .ok (.return_, 1) := by decide +kernel
theorem dX0_reckon_0 : decode cX0_reckon 0 = .ok (.aload_n 0, 1) := by decide +kernel
theorem dX0_reckon_1 : decode cX0_reckon 1 = .ok (.getfield 9, 3) := by decide +kernel
theorem dX0_reckon_4 : decode cX0_reckon 4 = .ok (.bipush (-2), 2) := by decide +kernel
theorem dX0_reckon_6 : decode cX0_reckon 6 = .ok (.invokestatic 15, 3) := by decide +kernel
theorem dX0_reckon_9 : decode cX0_reckon 9 = .ok (.iconst 1, 1) := by decide +kernel
theorem dX0_reckon_10 : decode cX0_reckon 10 = .ok (.istore 5, 2) := by decide +kernel
theorem dX0_reckon_12 : decode cX0_reckon 12 = .ok (.iconst 0, 1) := by decide +kernel
theorem dX0_reckon_13 : decode cX0_reckon 13 = .ok (.istore 6, 2) := by decide +kernel
theorem dX0_reckon_15 : decode cX0_reckon 15 = .ok (.iload 5, 2) := by decide +kernel
theorem dX0_reckon_17 : decode cX0_reckon 17 = .ok (.ifCond .eq 105, 3) := by decide +kernel
theorem dX0_reckon_20 : decode cX0_reckon 20 = .ok (.iload 6, 2) := by decide +kernel
theorem dX0_reckon_22 : decode cX0_reckon 22 = .ok (.bipush 24, 2) := by decide +kernel
theorem dX0_reckon_24 : decode cX0_reckon 24 = .ok (.if_icmp .ge 98, 3) := by decide +kernel
theorem dX0_reckon_27 : decode cX0_reckon 27 = .ok (.iconst 0, 1) := by decide +kernel
theorem dX0_reckon_28 : decode cX0_reckon 28 = .ok (.istore 5, 2) := by decide +kernel
theorem dX0_reckon_30 : decode cX0_reckon 30 = .ok (.iconst 0, 1) := by decide +kernel
theorem dX0_reckon_31 : decode cX0_reckon 31 = .ok (.istore 7, 2) := by decide +kernel
theorem dX0_reckon_33 : decode cX0_reckon 33 = .ok (.iload 7, 2) := by decide +kernel
theorem dX0_reckon_35 : decode cX0_reckon 35 = .ok (.bipush 24, 2) := by decide +kernel
theorem dX0_reckon_37 : decode cX0_reckon 37 = .ok (.if_icmp .ge 79, 3) := by decide +kernel
theorem dX0_reckon_40 : decode cX0_reckon 40 = .ok (.aload_n 0, 1) := by decide +kernel
theorem dX0_reckon_41 : decode cX0_reckon 41 = .ok (.getfield 9, 3) := by decide +kernel
theorem dX0_reckon_44 : decode cX0_reckon 44 = .ok (.iload 7, 2) := by decide +kernel
theorem dX0_reckon_46 : decode cX0_reckon 46 = .ok (.iaload, 1) := by decide +kernel
theorem dX0_reckon_47 : decode cX0_reckon 47 = .ok (.bipush (-2), 2) := by decide +kernel
theorem dX0_reckon_49 : decode cX0_reckon 49 = .ok (.if_icmp .ne 61, 3) := by decide +kernel
theorem dX0_reckon_52 : decode cX0_reckon 52 = .ok (.aload_n 1, 1) := by decide +kernel
theorem dX0_reckon_53 : decode cX0_reckon 53 = .ok (.iload 7, 2) := by decide +kernel
theorem dX0_reckon_55 : decode cX0_reckon 55 = .ok (.invokevirtual 21, 3) := by decide +kernel
theorem dX0_reckon_58 : decode cX0_reckon 58 = .ok (.istore 8, 2) := by decide +kernel
theorem dX0_reckon_60 : decode cX0_reckon 60 = .ok (.iload 8, 2) := by decide +kernel
theorem dX0_reckon_62 : decode cX0_reckon 62 = .ok (.iconst (-1), 1) := by decide +kernel
theorem dX0_reckon_63 : decode cX0_reckon 63 = .ok (.if_icmp .ne 7, 3) := by decide +kernel
theorem dX0_reckon_66 : decode cX0_reckon 66 = .ok (.iconst 0, 1) := by decide +kernel
theorem dX0_reckon_67 : decode cX0_reckon 67 = .ok (.goto 21, 3) := by decide +kernel
theorem dX0_reckon_70 : decode cX0_reckon 70 = .ok (.iload 8, 2) := by decide +kernel
theorem dX0_reckon_72 : decode cX0_reckon 72 = .ok (.iload_n 3, 1) := by decide +kernel
theorem dX0_reckon_73 : decode cX0_reckon 73 = .ok (.if_icmp .ne 8, 3) := by decide +kernel
theorem dX0_reckon_76 : decode cX0_reckon 76 = .ok (.iload 4, 2) := by decide +kernel
theorem dX0_reckon_78 : decode cX0_reckon 78 = .ok (.goto 10, 3) := by decide +kernel
theorem dX0_reckon_81 : decode cX0_reckon 81 = .ok (.aload_n 1, 1) := by decide +kernel
theorem dX0_reckon_82 : decode cX0_reckon 82 = .ok (.getfield 27, 3) := by decide +kernel
theorem dX0_reckon_85 : decode cX0_reckon 85 = .ok (.iload 8, 2) := by decide +kernel
theorem dX0_reckon_87 : decode cX0_reckon 87 = .ok (.iaload, 1) := by decide +kernel
theorem dX0_reckon_88 : decode cX0_reckon 88 = .ok (.istore 9, 2) := by decide +kernel
theorem dX0_reckon_90 : decode cX0_reckon 90 = .ok (.aload_n 0, 1) := by decide +kernel
theorem dX0_reckon_91 : decode cX0_reckon 91 = .ok (.getfield 9, 3) := by decide +kernel
theorem dX0_reckon_94 : decode cX0_reckon 94 = .ok (.iload 7, 2) := by decide +kernel
theorem dX0_reckon_96 : decode cX0_reckon 96 = .ok (.aload_n 0, 1) := by decide +kernel
theorem dX0_reckon_97 : decode cX0_reckon 97 = .ok (.aload_n 1, 1) := by decide +kernel
theorem dX0_reckon_98 : decode cX0_reckon 98 = .ok (.aload_n 2, 1) := by decide +kernel
theorem dX0_reckon_99 : decode cX0_reckon 99 = .ok (.iload 8, 2) := by decide +kernel
theorem dX0_reckon_101 : decode cX0_reckon 101 = .ok (.iload 9, 2) := by decide +kernel
theorem dX0_reckon_103 : decode cX0_reckon 103 = .ok (.invokevirtual 30, 3) := by decide +kernel
theorem dX0_reckon_106 : decode cX0_reckon 106 = .ok (.iastore, 1) := by decide +kernel
theorem dX0_reckon_107 : decode cX0_reckon 107 = .ok (.iconst 1, 1) := by decide +kernel
theorem dX0_reckon_108 : decode cX0_reckon 108 = .ok (.istore 5, 2) := by decide +kernel
theorem dX0_reckon_110 : decode cX0_reckon 110 = .ok (.iinc 7 1, 3) := by decide +kernel
theorem dX0_reckon_113 : decode cX0_reckon 113 = .ok (.goto (-80), 3) := by decide +kernel
theorem dX0_reckon_116 : decode cX0_reckon 116 = .ok (.iinc 6 1, 3) := by decide +kernel
theorem dX0_reckon_119 : decode cX0_reckon 119 = .ok (.goto (-104), 3) := by decide +kernel
theorem dX0_reckon_122 : decode cX0_reckon 122 = .ok (.return_, 1) := by decide +kernel
theorem dX0_arrivalBy_0 : decode cX0_arrivalBy 0 = .ok (.iload_n 3, 1) := by decide +kernel
theorem dX0_arrivalBy_1 : decode cX0_arrivalBy 1 = .ok (.iconst (-1), 1) := by decide +kernel
theorem dX0_arrivalBy_2 : decode cX0_arrivalBy 2 = .ok (.if_icmp .eq 14, 3) := by decide +kernel
theorem dX0_arrivalBy_5 : decode cX0_arrivalBy 5 = .ok (.aload_n 1, 1) := by decide +kernel
theorem dX0_arrivalBy_6 : decode cX0_arrivalBy 6 = .ok (.getfield 34, 3) := by decide +kernel
theorem dX0_arrivalBy_9 : decode cX0_arrivalBy 9 = .ok (.iload_n 3, 1) := by decide +kernel
theorem dX0_arrivalBy_10 : decode cX0_arrivalBy 10 = .ok (.iaload, 1) := by decide +kernel
theorem dX0_arrivalBy_11 : decode cX0_arrivalBy 11 = .ok (.bipush 8, 2) := by decide +kernel
theorem dX0_arrivalBy_13 : decode cX0_arrivalBy 13 = .ok (.if_icmp .ne 5, 3) := by decide +kernel
theorem dX0_arrivalBy_16 : decode cX0_arrivalBy 16 = .ok (.iconst 0, 1) := by decide +kernel
theorem dX0_arrivalBy_17 : decode cX0_arrivalBy 17 = .ok (.ireturn, 1) := by decide +kernel
theorem dX0_arrivalBy_18 : decode cX0_arrivalBy 18 = .ok (.aload_n 1, 1) := by decide +kernel
theorem dX0_arrivalBy_19 : decode cX0_arrivalBy 19 = .ok (.getfield 34, 3) := by decide +kernel
theorem dX0_arrivalBy_22 : decode cX0_arrivalBy 22 = .ok (.iload_n 3, 1) := by decide +kernel
theorem dX0_arrivalBy_23 : decode cX0_arrivalBy 23 = .ok (.iaload, 1) := by decide +kernel
theorem dX0_arrivalBy_24 : decode cX0_arrivalBy 24 = .ok (.bipush 9, 2) := by decide +kernel
theorem dX0_arrivalBy_26 : decode cX0_arrivalBy 26 = .ok (.if_icmp .ne 6, 3) := by decide +kernel
theorem dX0_arrivalBy_29 : decode cX0_arrivalBy 29 = .ok (.iload 4, 2) := by decide +kernel
theorem dX0_arrivalBy_31 : decode cX0_arrivalBy 31 = .ok (.ireturn, 1) := by decide +kernel
theorem dX0_arrivalBy_32 : decode cX0_arrivalBy 32 = .ok (.aload_n 2, 1) := by decide +kernel
theorem dX0_arrivalBy_33 : decode cX0_arrivalBy 33 = .ok (.getfield 37, 3) := by decide +kernel
theorem dX0_arrivalBy_36 : decode cX0_arrivalBy 36 = .ok (.iload_n 3, 1) := by decide +kernel
theorem dX0_arrivalBy_37 : decode cX0_arrivalBy 37 = .ok (.baload, 1) := by decide +kernel
theorem dX0_arrivalBy_38 : decode cX0_arrivalBy 38 = .ok (.ifCond .eq 5, 3) := by decide +kernel
theorem dX0_arrivalBy_41 : decode cX0_arrivalBy 41 = .ok (.iconst (-1), 1) := by decide +kernel
theorem dX0_arrivalBy_42 : decode cX0_arrivalBy 42 = .ok (.ireturn, 1) := by decide +kernel
theorem dX0_arrivalBy_43 : decode cX0_arrivalBy 43 = .ok (.aload_n 0, 1) := by decide +kernel
theorem dX0_arrivalBy_44 : decode cX0_arrivalBy 44 = .ok (.aload_n 1, 1) := by decide +kernel
theorem dX0_arrivalBy_45 : decode cX0_arrivalBy 45 = .ok (.getfield 43, 3) := by decide +kernel
theorem dX0_arrivalBy_48 : decode cX0_arrivalBy 48 = .ok (.iload_n 3, 1) := by decide +kernel
theorem dX0_arrivalBy_49 : decode cX0_arrivalBy 49 = .ok (.iaload, 1) := by decide +kernel
theorem dX0_arrivalBy_50 : decode cX0_arrivalBy 50 = .ok (.invokevirtual 46, 3) := by decide +kernel
theorem dX0_arrivalBy_53 : decode cX0_arrivalBy 53 = .ok (.istore 5, 2) := by decide +kernel
theorem dX0_arrivalBy_55 : decode cX0_arrivalBy 55 = .ok (.aload_n 0, 1) := by decide +kernel
theorem dX0_arrivalBy_56 : decode cX0_arrivalBy 56 = .ok (.aload_n 1, 1) := by decide +kernel
theorem dX0_arrivalBy_57 : decode cX0_arrivalBy 57 = .ok (.getfield 49, 3) := by decide +kernel
theorem dX0_arrivalBy_60 : decode cX0_arrivalBy 60 = .ok (.iload_n 3, 1) := by decide +kernel
theorem dX0_arrivalBy_61 : decode cX0_arrivalBy 61 = .ok (.iaload, 1) := by decide +kernel
theorem dX0_arrivalBy_62 : decode cX0_arrivalBy 62 = .ok (.invokevirtual 46, 3) := by decide +kernel
theorem dX0_arrivalBy_65 : decode cX0_arrivalBy 65 = .ok (.istore 6, 2) := by decide +kernel
theorem dX0_arrivalBy_67 : decode cX0_arrivalBy 67 = .ok (.aload_n 0, 1) := by decide +kernel
theorem dX0_arrivalBy_68 : decode cX0_arrivalBy 68 = .ok (.aload_n 1, 1) := by decide +kernel
theorem dX0_arrivalBy_69 : decode cX0_arrivalBy 69 = .ok (.getfield 52, 3) := by decide +kernel
theorem dX0_arrivalBy_72 : decode cX0_arrivalBy 72 = .ok (.iload_n 3, 1) := by decide +kernel
theorem dX0_arrivalBy_73 : decode cX0_arrivalBy 73 = .ok (.iaload, 1) := by decide +kernel
theorem dX0_arrivalBy_74 : decode cX0_arrivalBy 74 = .ok (.invokevirtual 46, 3) := by decide +kernel
theorem dX0_arrivalBy_77 : decode cX0_arrivalBy 77 = .ok (.istore 7, 2) := by decide +kernel
theorem dX0_arrivalBy_79 : decode cX0_arrivalBy 79 = .ok (.iload 5, 2) := by decide +kernel
theorem dX0_arrivalBy_81 : decode cX0_arrivalBy 81 = .ok (.bipush (-2), 2) := by decide +kernel
theorem dX0_arrivalBy_83 : decode cX0_arrivalBy 83 = .ok (.if_icmp .eq 17, 3) := by decide +kernel
theorem dX0_arrivalBy_86 : decode cX0_arrivalBy 86 = .ok (.iload 6, 2) := by decide +kernel
theorem dX0_arrivalBy_88 : decode cX0_arrivalBy 88 = .ok (.bipush (-2), 2) := by decide +kernel
theorem dX0_arrivalBy_90 : decode cX0_arrivalBy 90 = .ok (.if_icmp .eq 10, 3) := by decide +kernel
theorem dX0_arrivalBy_93 : decode cX0_arrivalBy 93 = .ok (.iload 7, 2) := by decide +kernel
theorem dX0_arrivalBy_95 : decode cX0_arrivalBy 95 = .ok (.bipush (-2), 2) := by decide +kernel
theorem dX0_arrivalBy_97 : decode cX0_arrivalBy 97 = .ok (.if_icmp .ne 6, 3) := by decide +kernel
theorem dX0_arrivalBy_100 : decode cX0_arrivalBy 100 = .ok (.bipush (-2), 2) := by decide +kernel
theorem dX0_arrivalBy_102 : decode cX0_arrivalBy 102 = .ok (.ireturn, 1) := by decide +kernel
theorem dX0_arrivalBy_103 : decode cX0_arrivalBy 103 = .ok (.iload 5, 2) := by decide +kernel
theorem dX0_arrivalBy_105 : decode cX0_arrivalBy 105 = .ok (.iconst (-1), 1) := by decide +kernel
theorem dX0_arrivalBy_106 : decode cX0_arrivalBy 106 = .ok (.if_icmp .eq 15, 3) := by decide +kernel
theorem dX0_arrivalBy_109 : decode cX0_arrivalBy 109 = .ok (.iload 6, 2) := by decide +kernel
theorem dX0_arrivalBy_111 : decode cX0_arrivalBy 111 = .ok (.iconst (-1), 1) := by decide +kernel
theorem dX0_arrivalBy_112 : decode cX0_arrivalBy 112 = .ok (.if_icmp .eq 9, 3) := by decide +kernel
theorem dX0_arrivalBy_115 : decode cX0_arrivalBy 115 = .ok (.iload 7, 2) := by decide +kernel
theorem dX0_arrivalBy_117 : decode cX0_arrivalBy 117 = .ok (.iconst (-1), 1) := by decide +kernel
theorem dX0_arrivalBy_118 : decode cX0_arrivalBy 118 = .ok (.if_icmp .ne 5, 3) := by decide +kernel
theorem dX0_arrivalBy_121 : decode cX0_arrivalBy 121 = .ok (.iconst (-1), 1) := by decide +kernel
theorem dX0_arrivalBy_122 : decode cX0_arrivalBy 122 = .ok (.ireturn, 1) := by decide +kernel
theorem dX0_arrivalBy_123 : decode cX0_arrivalBy 123 = .ok (.iload 4, 2) := by decide +kernel
theorem dX0_arrivalBy_125 : decode cX0_arrivalBy 125 = .ok (.iload 5, 2) := by decide +kernel
theorem dX0_arrivalBy_127 : decode cX0_arrivalBy 127 = .ok (.iload 6, 2) := by decide +kernel
theorem dX0_arrivalBy_129 : decode cX0_arrivalBy 129 = .ok (.iload 7, 2) := by decide +kernel
theorem dX0_arrivalBy_131 : decode cX0_arrivalBy 131 = .ok (.invokestatic 55, 3) := by decide +kernel
theorem dX0_arrivalBy_134 : decode cX0_arrivalBy 134 = .ok (.invokestatic 55, 3) := by decide +kernel
theorem dX0_arrivalBy_137 : decode cX0_arrivalBy 137 = .ok (.iadd, 1) := by decide +kernel
theorem dX0_arrivalBy_138 : decode cX0_arrivalBy 138 = .ok (.ireturn, 1) := by decide +kernel
theorem dX0_arrivalOf_0 : decode cX0_arrivalOf 0 = .ok (.iload_n 1, 1) := by decide +kernel
theorem dX0_arrivalOf_1 : decode cX0_arrivalOf 1 = .ok (.invokestatic 61, 3) := by decide +kernel
theorem dX0_arrivalOf_4 : decode cX0_arrivalOf 4 = .ok (.ifCond .eq 12, 3) := by decide +kernel
theorem dX0_arrivalOf_7 : decode cX0_arrivalOf 7 = .ok (.aload_n 0, 1) := by decide +kernel
theorem dX0_arrivalOf_8 : decode cX0_arrivalOf 8 = .ok (.getfield 9, 3) := by decide +kernel
theorem dX0_arrivalOf_11 : decode cX0_arrivalOf 11 = .ok (.iload_n 1, 1) := by decide +kernel
theorem dX0_arrivalOf_12 : decode cX0_arrivalOf 12 = .ok (.iaload, 1) := by decide +kernel
theorem dX0_arrivalOf_13 : decode cX0_arrivalOf 13 = .ok (.goto 4, 3) := by decide +kernel
theorem dX0_arrivalOf_16 : decode cX0_arrivalOf 16 = .ok (.iconst 0, 1) := by decide +kernel
theorem dX0_arrivalOf_17 : decode cX0_arrivalOf 17 = .ok (.ireturn, 1) := by decide +kernel
theorem dX0_greatest_0 : decode cX0_greatest 0 = .ok (.iconst 0, 1) := by decide +kernel
theorem dX0_greatest_1 : decode cX0_greatest 1 = .ok (.istore_n 1, 1) := by decide +kernel
theorem dX0_greatest_2 : decode cX0_greatest 2 = .ok (.iconst 0, 1) := by decide +kernel
theorem dX0_greatest_3 : decode cX0_greatest 3 = .ok (.istore_n 2, 1) := by decide +kernel
theorem dX0_greatest_4 : decode cX0_greatest 4 = .ok (.iload_n 2, 1) := by decide +kernel
theorem dX0_greatest_5 : decode cX0_greatest 5 = .ok (.bipush 24, 2) := by decide +kernel
theorem dX0_greatest_7 : decode cX0_greatest 7 = .ok (.if_icmp .ge 20, 3) := by decide +kernel
theorem dX0_greatest_10 : decode cX0_greatest 10 = .ok (.iload_n 1, 1) := by decide +kernel
theorem dX0_greatest_11 : decode cX0_greatest 11 = .ok (.aload_n 0, 1) := by decide +kernel
theorem dX0_greatest_12 : decode cX0_greatest 12 = .ok (.getfield 9, 3) := by decide +kernel
theorem dX0_greatest_15 : decode cX0_greatest 15 = .ok (.iload_n 2, 1) := by decide +kernel
theorem dX0_greatest_16 : decode cX0_greatest 16 = .ok (.iaload, 1) := by decide +kernel
theorem dX0_greatest_17 : decode cX0_greatest 17 = .ok (.invokestatic 55, 3) := by decide +kernel
theorem dX0_greatest_20 : decode cX0_greatest 20 = .ok (.istore_n 1, 1) := by decide +kernel
theorem dX0_greatest_21 : decode cX0_greatest 21 = .ok (.iinc 2 1, 3) := by decide +kernel
theorem dX0_greatest_24 : decode cX0_greatest 24 = .ok (.goto (-20), 3) := by decide +kernel
theorem dX0_greatest_27 : decode cX0_greatest 27 = .ok (.iload_n 1, 1) := by decide +kernel
theorem dX0_greatest_28 : decode cX0_greatest 28 = .ok (.ireturn, 1) := by decide +kernel
theorem dX0_latestDriven_0 : decode cX0_latestDriven 0 = .ok (.iconst (-1), 1) := by decide +kernel
theorem dX0_latestDriven_1 : decode cX0_latestDriven 1 = .ok (.istore_n 2, 1) := by decide +kernel
theorem dX0_latestDriven_2 : decode cX0_latestDriven 2 = .ok (.iconst (-1), 1) := by decide +kernel
theorem dX0_latestDriven_3 : decode cX0_latestDriven 3 = .ok (.istore_n 3, 1) := by decide +kernel
theorem dX0_latestDriven_4 : decode cX0_latestDriven 4 = .ok (.iconst 0, 1) := by decide +kernel
theorem dX0_latestDriven_5 : decode cX0_latestDriven 5 = .ok (.istore 4, 2) := by decide +kernel
theorem dX0_latestDriven_7 : decode cX0_latestDriven 7 = .ok (.iload 4, 2) := by decide +kernel
theorem dX0_latestDriven_9 : decode cX0_latestDriven 9 = .ok (.bipush 24, 2) := by decide +kernel
theorem dX0_latestDriven_11 : decode cX0_latestDriven 11 = .ok (.if_icmp .ge 41, 3) := by decide +kernel
theorem dX0_latestDriven_14 : decode cX0_latestDriven 14 = .ok (.aload_n 1, 1) := by decide +kernel
theorem dX0_latestDriven_15 : decode cX0_latestDriven 15 = .ok (.getfield 65, 3) := by decide +kernel
theorem dX0_latestDriven_18 : decode cX0_latestDriven 18 = .ok (.iload 4, 2) := by decide +kernel
theorem dX0_latestDriven_20 : decode cX0_latestDriven 20 = .ok (.iaload, 1) := by decide +kernel
theorem dX0_latestDriven_21 : decode cX0_latestDriven 21 = .ok (.ifCond .le 25, 3) := by decide +kernel
theorem dX0_latestDriven_24 : decode cX0_latestDriven 24 = .ok (.aload_n 0, 1) := by decide +kernel
theorem dX0_latestDriven_25 : decode cX0_latestDriven 25 = .ok (.getfield 9, 3) := by decide +kernel
theorem dX0_latestDriven_28 : decode cX0_latestDriven 28 = .ok (.iload 4, 2) := by decide +kernel
theorem dX0_latestDriven_30 : decode cX0_latestDriven 30 = .ok (.iaload, 1) := by decide +kernel
theorem dX0_latestDriven_31 : decode cX0_latestDriven 31 = .ok (.iload_n 3, 1) := by decide +kernel
theorem dX0_latestDriven_32 : decode cX0_latestDriven 32 = .ok (.if_icmp .le 14, 3) := by decide +kernel
theorem dX0_latestDriven_35 : decode cX0_latestDriven 35 = .ok (.iload 4, 2) := by decide +kernel
theorem dX0_latestDriven_37 : decode cX0_latestDriven 37 = .ok (.istore_n 2, 1) := by decide +kernel
theorem dX0_latestDriven_38 : decode cX0_latestDriven 38 = .ok (.aload_n 0, 1) := by decide +kernel
theorem dX0_latestDriven_39 : decode cX0_latestDriven 39 = .ok (.getfield 9, 3) := by decide +kernel
theorem dX0_latestDriven_42 : decode cX0_latestDriven 42 = .ok (.iload 4, 2) := by decide +kernel
theorem dX0_latestDriven_44 : decode cX0_latestDriven 44 = .ok (.iaload, 1) := by decide +kernel
theorem dX0_latestDriven_45 : decode cX0_latestDriven 45 = .ok (.istore_n 3, 1) := by decide +kernel
theorem dX0_latestDriven_46 : decode cX0_latestDriven 46 = .ok (.iinc 4 1, 3) := by decide +kernel
theorem dX0_latestDriven_49 : decode cX0_latestDriven 49 = .ok (.goto (-42), 3) := by decide +kernel
theorem dX0_latestDriven_52 : decode cX0_latestDriven 52 = .ok (.iload_n 2, 1) := by decide +kernel
theorem dX0_latestDriven_53 : decode cX0_latestDriven 53 = .ok (.ireturn, 1) := by decide +kernel
theorem dX0_wireBehind_0 : decode cX0_wireBehind 0 = .ok (.aload_n 1, 1) := by decide +kernel
theorem dX0_wireBehind_1 : decode cX0_wireBehind 1 = .ok (.iload_n 2, 1) := by decide +kernel
theorem dX0_wireBehind_2 : decode cX0_wireBehind 2 = .ok (.invokevirtual 21, 3) := by decide +kernel
theorem dX0_wireBehind_5 : decode cX0_wireBehind 5 = .ok (.istore_n 3, 1) := by decide +kernel
theorem dX0_wireBehind_6 : decode cX0_wireBehind 6 = .ok (.iload_n 3, 1) := by decide +kernel
theorem dX0_wireBehind_7 : decode cX0_wireBehind 7 = .ok (.iconst (-1), 1) := by decide +kernel
theorem dX0_wireBehind_8 : decode cX0_wireBehind 8 = .ok (.if_icmp .eq 11, 3) := by decide +kernel
theorem dX0_wireBehind_11 : decode cX0_wireBehind 11 = .ok (.aload_n 1, 1) := by decide +kernel
theorem dX0_wireBehind_12 : decode cX0_wireBehind 12 = .ok (.iload_n 3, 1) := by decide +kernel
theorem dX0_wireBehind_13 : decode cX0_wireBehind 13 = .ok (.invokevirtual 68, 3) := by decide +kernel
theorem dX0_wireBehind_16 : decode cX0_wireBehind 16 = .ok (.ifCond .ne 5, 3) := by decide +kernel
theorem dX0_wireBehind_19 : decode cX0_wireBehind 19 = .ok (.iconst (-1), 1) := by decide +kernel
theorem dX0_wireBehind_20 : decode cX0_wireBehind 20 = .ok (.ireturn, 1) := by decide +kernel
theorem dX0_wireBehind_21 : decode cX0_wireBehind 21 = .ok (.aload_n 1, 1) := by decide +kernel
theorem dX0_wireBehind_22 : decode cX0_wireBehind 22 = .ok (.getfield 43, 3) := by decide +kernel
theorem dX0_wireBehind_25 : decode cX0_wireBehind 25 = .ok (.iload_n 3, 1) := by decide +kernel
theorem dX0_wireBehind_26 : decode cX0_wireBehind 26 = .ok (.iaload, 1) := by decide +kernel
theorem dX0_wireBehind_27 : decode cX0_wireBehind 27 = .ok (.istore 4, 2) := by decide +kernel
theorem dX0_wireBehind_29 : decode cX0_wireBehind 29 = .ok (.aload_n 0, 1) := by decide +kernel
theorem dX0_wireBehind_30 : decode cX0_wireBehind 30 = .ok (.aload_n 1, 1) := by decide +kernel
theorem dX0_wireBehind_31 : decode cX0_wireBehind 31 = .ok (.getfield 49, 3) := by decide +kernel
theorem dX0_wireBehind_34 : decode cX0_wireBehind 34 = .ok (.iload_n 3, 1) := by decide +kernel
theorem dX0_wireBehind_35 : decode cX0_wireBehind 35 = .ok (.iaload, 1) := by decide +kernel
theorem dX0_wireBehind_36 : decode cX0_wireBehind 36 = .ok (.invokevirtual 46, 3) := by decide +kernel
theorem dX0_wireBehind_39 : decode cX0_wireBehind 39 = .ok (.aload_n 0, 1) := by decide +kernel
theorem dX0_wireBehind_40 : decode cX0_wireBehind 40 = .ok (.iload 4, 2) := by decide +kernel
theorem dX0_wireBehind_42 : decode cX0_wireBehind 42 = .ok (.invokevirtual 46, 3) := by decide +kernel
theorem dX0_wireBehind_45 : decode cX0_wireBehind 45 = .ok (.if_icmp .le 11, 3) := by decide +kernel
theorem dX0_wireBehind_48 : decode cX0_wireBehind 48 = .ok (.aload_n 1, 1) := by decide +kernel
theorem dX0_wireBehind_49 : decode cX0_wireBehind 49 = .ok (.getfield 49, 3) := by decide +kernel
theorem dX0_wireBehind_52 : decode cX0_wireBehind 52 = .ok (.iload_n 3, 1) := by decide +kernel
theorem dX0_wireBehind_53 : decode cX0_wireBehind 53 = .ok (.iaload, 1) := by decide +kernel
theorem dX0_wireBehind_54 : decode cX0_wireBehind 54 = .ok (.istore 4, 2) := by decide +kernel
theorem dX0_wireBehind_56 : decode cX0_wireBehind 56 = .ok (.aload_n 0, 1) := by decide +kernel
theorem dX0_wireBehind_57 : decode cX0_wireBehind 57 = .ok (.aload_n 1, 1) := by decide +kernel
theorem dX0_wireBehind_58 : decode cX0_wireBehind 58 = .ok (.getfield 52, 3) := by decide +kernel
theorem dX0_wireBehind_61 : decode cX0_wireBehind 61 = .ok (.iload_n 3, 1) := by decide +kernel
theorem dX0_wireBehind_62 : decode cX0_wireBehind 62 = .ok (.iaload, 1) := by decide +kernel
theorem dX0_wireBehind_63 : decode cX0_wireBehind 63 = .ok (.invokevirtual 46, 3) := by decide +kernel
theorem dX0_wireBehind_66 : decode cX0_wireBehind 66 = .ok (.aload_n 0, 1) := by decide +kernel
theorem dX0_wireBehind_67 : decode cX0_wireBehind 67 = .ok (.iload 4, 2) := by decide +kernel
theorem dX0_wireBehind_69 : decode cX0_wireBehind 69 = .ok (.invokevirtual 46, 3) := by decide +kernel
theorem dX0_wireBehind_72 : decode cX0_wireBehind 72 = .ok (.if_icmp .le 11, 3) := by decide +kernel
theorem dX0_wireBehind_75 : decode cX0_wireBehind 75 = .ok (.aload_n 1, 1) := by decide +kernel
theorem dX0_wireBehind_76 : decode cX0_wireBehind 76 = .ok (.getfield 52, 3) := by decide +kernel
theorem dX0_wireBehind_79 : decode cX0_wireBehind 79 = .ok (.iload_n 3, 1) := by decide +kernel
theorem dX0_wireBehind_80 : decode cX0_wireBehind 80 = .ok (.iaload, 1) := by decide +kernel
theorem dX0_wireBehind_81 : decode cX0_wireBehind 81 = .ok (.istore 4, 2) := by decide +kernel
theorem dX0_wireBehind_83 : decode cX0_wireBehind 83 = .ok (.iload 4, 2) := by decide +kernel
theorem dX0_wireBehind_85 : decode cX0_wireBehind 85 = .ok (.ireturn, 1) := by decide +kernel
theorem dX1_init_0 : decode cX1_init 0 = .ok (.aload_n 0, 1) := by decide +kernel
theorem dX1_init_1 : decode cX1_init 1 = .ok (.invokespecial 3, 3) := by decide +kernel
theorem dX1_init_4 : decode cX1_init 4 = .ok (.aload_n 0, 1) := by decide +kernel
theorem dX1_init_5 : decode cX1_init 5 = .ok (.bipush 30, 2) := by decide +kernel
theorem dX1_init_7 : decode cX1_init 7 = .ok (.newarray .int, 2) := by decide +kernel
theorem dX1_init_9 : decode cX1_init 9 = .ok (.putfield 9, 3) := by decide +kernel
theorem dX1_init_12 : decode cX1_init 12 = .ok (.aload_n 0, 1) := by decide +kernel
theorem dX1_init_13 : decode cX1_init 13 = .ok (.bipush 30, 2) := by decide +kernel
theorem dX1_init_15 : decode cX1_init 15 = .ok (.newarray .int, 2) := by decide +kernel
theorem dX1_init_17 : decode cX1_init 17 = .ok (.putfield 15, 3) := by decide +kernel
theorem dX1_init_20 : decode cX1_init 20 = .ok (.aload_n 0, 1) := by decide +kernel
theorem dX1_init_21 : decode cX1_init 21 = .ok (.bipush 30, 2) := by decide +kernel
theorem dX1_init_23 : decode cX1_init 23 = .ok (.newarray .int, 2) := by decide +kernel
theorem dX1_init_25 : decode cX1_init 25 = .ok (.putfield 18, 3) := by decide +kernel
theorem dX1_init_28 : decode cX1_init 28 = .ok (.aload_n 0, 1) := by decide +kernel
theorem dX1_init_29 : decode cX1_init 29 = .ok (.bipush 30, 2) := by decide +kernel
theorem dX1_init_31 : decode cX1_init 31 = .ok (.newarray .int, 2) := by decide +kernel
theorem dX1_init_33 : decode cX1_init 33 = .ok (.putfield 21, 3) := by decide +kernel
theorem dX1_init_36 : decode cX1_init 36 = .ok (.aload_n 0, 1) := by decide +kernel
theorem dX1_init_37 : decode cX1_init 37 = .ok (.bipush 30, 2) := by decide +kernel
theorem dX1_init_39 : decode cX1_init 39 = .ok (.newarray .int, 2) := by decide +kernel
theorem dX1_init_41 : decode cX1_init 41 = .ok (.putfield 24, 3) := by decide +kernel
theorem dX1_init_44 : decode cX1_init 44 = .ok (.aload_n 0, 1) := by decide +kernel
theorem dX1_init_45 : decode cX1_init 45 = .ok (.bipush 30, 2) := by decide +kernel
theorem dX1_init_47 : decode cX1_init 47 = .ok (.newarray .int, 2) := by decide +kernel
theorem dX1_init_49 : decode cX1_init 49 = .ok (.putfield 27, 3) := by decide +kernel
theorem dX1_init_52 : decode cX1_init 52 = .ok (.aload_n 0, 1) := by decide +kernel
theorem dX1_init_53 : decode cX1_init 53 = .ok (.bipush 30, 2) := by decide +kernel
theorem dX1_init_55 : decode cX1_init 55 = .ok (.newarray .int, 2) := by decide +kernel
theorem dX1_init_57 : decode cX1_init 57 = .ok (.putfield 30, 3) := by decide +kernel
theorem dX1_init_60 : decode cX1_init 60 = .ok (.aload_n 0, 1) := by decide +kernel
theorem dX1_init_61 : decode cX1_init 61 = .ok (.bipush 30, 2) := by decide +kernel
theorem dX1_init_63 : decode cX1_init 63 = .ok (.newarray .int, 2) := by decide +kernel
theorem dX1_init_65 : decode cX1_init 65 = .ok (.putfield 33, 3) := by decide +kernel
theorem dX1_init_68 : decode cX1_init 68 = .ok (.aload_n 0, 1) := by decide +kernel
theorem dX1_init_69 : decode cX1_init 69 = .ok (.bipush 24, 2) := by decide +kernel
theorem dX1_init_71 : decode cX1_init 71 = .ok (.newarray .int, 2) := by decide +kernel
theorem dX1_init_73 : decode cX1_init 73 = .ok (.putfield 36, 3) := by decide +kernel
theorem dX1_init_76 : decode cX1_init 76 = .ok (.aload_n 0, 1) := by decide +kernel
theorem dX1_init_77 : decode cX1_init 77 = .ok (.bipush 24, 2) := by decide +kernel
theorem dX1_init_79 : decode cX1_init 79 = .ok (.newarray .int, 2) := by decide +kernel
theorem dX1_init_81 : decode cX1_init 81 = .ok (.putfield 39, 3) := by decide +kernel
theorem dX1_init_84 : decode cX1_init 84 = .ok (.aload_n 0, 1) := by decide +kernel
theorem dX1_init_85 : decode cX1_init 85 = .ok (.bipush 24, 2) := by decide +kernel
theorem dX1_init_87 : decode cX1_init 87 = .ok (.newarray .int, 2) := by decide +kernel
theorem dX1_init_89 : decode cX1_init 89 = .ok (.putfield 42, 3) := by decide +kernel
theorem dX1_init_92 : decode cX1_init 92 = .ok (.aload_n 0, 1) := by decide +kernel
theorem dX1_init_93 : decode cX1_init 93 = .ok (.getfield 42, 3) := by decide +kernel
theorem dX1_init_96 : decode cX1_init 96 = .ok (.iconst (-1), 1) := by decide +kernel
theorem dX1_init_97 : decode cX1_init 97 = .ok (.invokestatic 45, 3) := by decide +kernel
theorem dX1_init_100 : decode cX1_init 100 = .ok (.aload_n 0, 1) := by decide +kernel
theorem dX1_init_101 : decode cX1_init 101 = .ok (.iconst 0, 1) := by decide +kernel
theorem dX1_init_102 : decode cX1_init 102 = .ok (.putfield 51, 3) := by decide +kernel
theorem dX1_init_105 : decode cX1_init 105 = .ok (.return_, 1) := by decide +kernel
theorem dX1_add_0 : decode cX1_add 0 = .ok (.aload_n 0, 1) := by decide +kernel
theorem dX1_add_1 : decode cX1_add 1 = .ok (.getfield 51, 3) := by decide +kernel
theorem dX1_add_4 : decode cX1_add 4 = .ok (.bipush 30, 2) := by decide +kernel
theorem dX1_add_6 : decode cX1_add 6 = .ok (.if_icmp .ge 10, 3) := by decide +kernel
theorem dX1_add_9 : decode cX1_add 9 = .ok (.iload_n 2, 1) := by decide +kernel
theorem dX1_add_10 : decode cX1_add 10 = .ok (.invokestatic 55, 3) := by decide +kernel
theorem dX1_add_13 : decode cX1_add 13 = .ok (.ifCond .ne 5, 3) := by decide +kernel
theorem dX1_add_16 : decode cX1_add 16 = .ok (.iconst (-1), 1) := by decide +kernel
theorem dX1_add_17 : decode cX1_add 17 = .ok (.ireturn, 1) := by decide +kernel
theorem dX1_add_18 : decode cX1_add 18 = .ok (.aload_n 0, 1) := by decide +kernel
theorem dX1_add_19 : decode cX1_add 19 = .ok (.getfield 51, 3) := by decide +kernel
theorem dX1_add_22 : decode cX1_add 22 = .ok (.istore 7, 2) := by decide +kernel
theorem dX1_add_24 : decode cX1_add 24 = .ok (.aload_n 0, 1) := by decide +kernel
theorem dX1_add_25 : decode cX1_add 25 = .ok (.getfield 9, 3) := by decide +kernel
theorem dX1_add_28 : decode cX1_add 28 = .ok (.iload 7, 2) := by decide +kernel
theorem dX1_add_30 : decode cX1_add 30 = .ok (.iload_n 1, 1) := by decide +kernel
theorem dX1_add_31 : decode cX1_add 31 = .ok (.iastore, 1) := by decide +kernel
theorem dX1_add_32 : decode cX1_add 32 = .ok (.aload_n 0, 1) := by decide +kernel
theorem dX1_add_33 : decode cX1_add 33 = .ok (.getfield 15, 3) := by decide +kernel
theorem dX1_add_36 : decode cX1_add 36 = .ok (.iload 7, 2) := by decide +kernel
theorem dX1_add_38 : decode cX1_add 38 = .ok (.iload_n 2, 1) := by decide +kernel
theorem dX1_add_39 : decode cX1_add 39 = .ok (.iastore, 1) := by decide +kernel
theorem dX1_add_40 : decode cX1_add 40 = .ok (.aload_n 0, 1) := by decide +kernel
theorem dX1_add_41 : decode cX1_add 41 = .ok (.getfield 18, 3) := by decide +kernel
theorem dX1_add_44 : decode cX1_add 44 = .ok (.iload 7, 2) := by decide +kernel
theorem dX1_add_46 : decode cX1_add 46 = .ok (.iload_n 3, 1) := by decide +kernel
theorem dX1_add_47 : decode cX1_add 47 = .ok (.iastore, 1) := by decide +kernel
theorem dX1_add_48 : decode cX1_add 48 = .ok (.aload_n 0, 1) := by decide +kernel
theorem dX1_add_49 : decode cX1_add 49 = .ok (.getfield 21, 3) := by decide +kernel
theorem dX1_add_52 : decode cX1_add 52 = .ok (.iload 7, 2) := by decide +kernel
theorem dX1_add_54 : decode cX1_add 54 = .ok (.iload 4, 2) := by decide +kernel
theorem dX1_add_56 : decode cX1_add 56 = .ok (.iastore, 1) := by decide +kernel
theorem dX1_add_57 : decode cX1_add 57 = .ok (.aload_n 0, 1) := by decide +kernel
theorem dX1_add_58 : decode cX1_add 58 = .ok (.getfield 24, 3) := by decide +kernel
theorem dX1_add_61 : decode cX1_add 61 = .ok (.iload 7, 2) := by decide +kernel
theorem dX1_add_63 : decode cX1_add 63 = .ok (.iload 5, 2) := by decide +kernel
theorem dX1_add_65 : decode cX1_add 65 = .ok (.iastore, 1) := by decide +kernel
theorem dX1_add_66 : decode cX1_add 66 = .ok (.aload_n 0, 1) := by decide +kernel
theorem dX1_add_67 : decode cX1_add 67 = .ok (.getfield 27, 3) := by decide +kernel
theorem dX1_add_70 : decode cX1_add 70 = .ok (.iload 7, 2) := by decide +kernel
theorem dX1_add_72 : decode cX1_add 72 = .ok (.iload 6, 2) := by decide +kernel
theorem dX1_add_74 : decode cX1_add 74 = .ok (.iastore, 1) := by decide +kernel
theorem dX1_add_75 : decode cX1_add 75 = .ok (.aload_n 0, 1) := by decide +kernel
theorem dX1_add_76 : decode cX1_add 76 = .ok (.iload 7, 2) := by decide +kernel
theorem dX1_add_78 : decode cX1_add 78 = .ok (.iload_n 3, 1) := by decide +kernel
theorem dX1_add_79 : decode cX1_add 79 = .ok (.invokevirtual 59, 3) := by decide +kernel
theorem dX1_add_82 : decode cX1_add 82 = .ok (.aload_n 0, 1) := by decide +kernel
theorem dX1_add_83 : decode cX1_add 83 = .ok (.iload 7, 2) := by decide +kernel
theorem dX1_add_85 : decode cX1_add 85 = .ok (.iload 4, 2) := by decide +kernel
theorem dX1_add_87 : decode cX1_add 87 = .ok (.invokevirtual 59, 3) := by decide +kernel
theorem dX1_add_90 : decode cX1_add 90 = .ok (.aload_n 0, 1) := by decide +kernel
theorem dX1_add_91 : decode cX1_add 91 = .ok (.iload 7, 2) := by decide +kernel
theorem dX1_add_93 : decode cX1_add 93 = .ok (.iload 5, 2) := by decide +kernel
theorem dX1_add_95 : decode cX1_add 95 = .ok (.invokevirtual 59, 3) := by decide +kernel
theorem dX1_add_98 : decode cX1_add 98 = .ok (.aload_n 0, 1) := by decide +kernel
theorem dX1_add_99 : decode cX1_add 99 = .ok (.getfield 39, 3) := by decide +kernel
theorem dX1_add_102 : decode cX1_add 102 = .ok (.iload_n 2, 1) := by decide +kernel
theorem dX1_add_103 : decode cX1_add 103 = .ok (.iaload, 1) := by decide +kernel
theorem dX1_add_104 : decode cX1_add 104 = .ok (.ifCond .ne 11, 3) := by decide +kernel
theorem dX1_add_107 : decode cX1_add 107 = .ok (.aload_n 0, 1) := by decide +kernel
theorem dX1_add_108 : decode cX1_add 108 = .ok (.getfield 42, 3) := by decide +kernel
theorem dX1_add_111 : decode cX1_add 111 = .ok (.iload_n 2, 1) := by decide +kernel
theorem dX1_add_112 : decode cX1_add 112 = .ok (.iload 7, 2) := by decide +kernel
theorem dX1_add_114 : decode cX1_add 114 = .ok (.iastore, 1) := by decide +kernel
theorem dX1_add_115 : decode cX1_add 115 = .ok (.aload_n 0, 1) := by decide +kernel
theorem dX1_add_116 : decode cX1_add 116 = .ok (.getfield 39, 3) := by decide +kernel
theorem dX1_add_119 : decode cX1_add 119 = .ok (.iload_n 2, 1) := by decide +kernel
theorem dX1_add_120 : decode cX1_add 120 = .ok (.dup2, 1) := by decide +kernel
theorem dX1_add_121 : decode cX1_add 121 = .ok (.iaload, 1) := by decide +kernel
theorem dX1_add_122 : decode cX1_add 122 = .ok (.iconst 1, 1) := by decide +kernel
theorem dX1_add_123 : decode cX1_add 123 = .ok (.iadd, 1) := by decide +kernel
theorem dX1_add_124 : decode cX1_add 124 = .ok (.iastore, 1) := by decide +kernel
theorem dX1_add_125 : decode cX1_add 125 = .ok (.aload_n 0, 1) := by decide +kernel
theorem dX1_add_126 : decode cX1_add 126 = .ok (.dup, 1) := by decide +kernel
theorem dX1_add_127 : decode cX1_add 127 = .ok (.getfield 51, 3) := by decide +kernel
theorem dX1_add_130 : decode cX1_add 130 = .ok (.iconst 1, 1) := by decide +kernel
theorem dX1_add_131 : decode cX1_add 131 = .ok (.iadd, 1) := by decide +kernel
theorem dX1_add_132 : decode cX1_add 132 = .ok (.putfield 51, 3) := by decide +kernel
theorem dX1_add_135 : decode cX1_add 135 = .ok (.iload 7, 2) := by decide +kernel
theorem dX1_add_137 : decode cX1_add 137 = .ok (.ireturn, 1) := by decide +kernel
theorem dX1_noteUse_0 : decode cX1_noteUse 0 = .ok (.iload_n 2, 1) := by decide +kernel
theorem dX1_noteUse_1 : decode cX1_noteUse 1 = .ok (.invokestatic 55, 3) := by decide +kernel
theorem dX1_noteUse_4 : decode cX1_noteUse 4 = .ok (.ifCond .eq 15, 3) := by decide +kernel
theorem dX1_noteUse_7 : decode cX1_noteUse 7 = .ok (.aload_n 0, 1) := by decide +kernel
theorem dX1_noteUse_8 : decode cX1_noteUse 8 = .ok (.getfield 36, 3) := by decide +kernel
theorem dX1_noteUse_11 : decode cX1_noteUse 11 = .ok (.iload_n 2, 1) := by decide +kernel
theorem dX1_noteUse_12 : decode cX1_noteUse 12 = .ok (.dup2, 1) := by decide +kernel
theorem dX1_noteUse_13 : decode cX1_noteUse 13 = .ok (.iaload, 1) := by decide +kernel
theorem dX1_noteUse_14 : decode cX1_noteUse 14 = .ok (.iconst 1, 1) := by decide +kernel
theorem dX1_noteUse_15 : decode cX1_noteUse 15 = .ok (.iload_n 1, 1) := by decide +kernel
theorem dX1_noteUse_16 : decode cX1_noteUse 16 = .ok (.ishl, 1) := by decide +kernel
theorem dX1_noteUse_17 : decode cX1_noteUse 17 = .ok (.ior, 1) := by decide +kernel
theorem dX1_noteUse_18 : decode cX1_noteUse 18 = .ok (.iastore, 1) := by decide +kernel
theorem dX1_noteUse_19 : decode cX1_noteUse 19 = .ok (.return_, 1) := by decide +kernel
theorem dX1_isGate_0 : decode cX1_isGate 0 = .ok (.aload_n 0, 1) := by decide +kernel
theorem dX1_isGate_1 : decode cX1_isGate 1 = .ok (.getfield 9, 3) := by decide +kernel
theorem dX1_isGate_4 : decode cX1_isGate 4 = .ok (.iload_n 1, 1) := by decide +kernel
theorem dX1_isGate_5 : decode cX1_isGate 5 = .ok (.iaload, 1) := by decide +kernel
theorem dX1_isGate_6 : decode cX1_isGate 6 = .ok (.bipush 7, 2) := by decide +kernel
theorem dX1_isGate_8 : decode cX1_isGate 8 = .ok (.if_icmp .gt 7, 3) := by decide +kernel
theorem dX1_isGate_11 : decode cX1_isGate 11 = .ok (.iconst 1, 1) := by decide +kernel
theorem dX1_isGate_12 : decode cX1_isGate 12 = .ok (.goto 4, 3) := by decide +kernel
theorem dX1_isGate_15 : decode cX1_isGate 15 = .ok (.iconst 0, 1) := by decide +kernel
theorem dX1_isGate_16 : decode cX1_isGate 16 = .ok (.ireturn, 1) := by decide +kernel
theorem dX1_isFirstDrivenBy_0 : decode cX1_isFirstDrivenBy 0 = .ok (.aload_n 0, 1) := by decide +kernel
theorem dX1_isFirstDrivenBy_1 : decode cX1_isFirstDrivenBy 1 = .ok (.iload_n 1, 1) := by decide +kernel
theorem dX1_isFirstDrivenBy_2 : decode cX1_isFirstDrivenBy 2 = .ok (.invokevirtual 63, 3) := by decide +kernel
theorem dX1_isFirstDrivenBy_5 : decode cX1_isFirstDrivenBy 5 = .ok (.istore_n 3, 1) := by decide +kernel
theorem dX1_isFirstDrivenBy_6 : decode cX1_isFirstDrivenBy 6 = .ok (.iload_n 3, 1) := by decide +kernel
theorem dX1_isFirstDrivenBy_7 : decode cX1_isFirstDrivenBy 7 = .ok (.iconst (-1), 1) := by decide +kernel
theorem dX1_isFirstDrivenBy_8 : decode cX1_isFirstDrivenBy 8 = .ok (.if_icmp .eq 17, 3) := by decide +kernel
theorem dX1_isFirstDrivenBy_11 : decode cX1_isFirstDrivenBy 11 = .ok (.aload_n 0, 1) := by decide +kernel
theorem dX1_isFirstDrivenBy_12 : decode cX1_isFirstDrivenBy 12 = .ok (.getfield 9, 3) := by decide +kernel
theorem dX1_isFirstDrivenBy_15 : decode cX1_isFirstDrivenBy 15 = .ok (.iload_n 3, 1) := by decide +kernel
theorem dX1_isFirstDrivenBy_16 : decode cX1_isFirstDrivenBy 16 = .ok (.iaload, 1) := by decide +kernel
theorem dX1_isFirstDrivenBy_17 : decode cX1_isFirstDrivenBy 17 = .ok (.iload_n 2, 1) := by decide +kernel
theorem dX1_isFirstDrivenBy_18 : decode cX1_isFirstDrivenBy 18 = .ok (.if_icmp .ne 7, 3) := by decide +kernel
theorem dX1_isFirstDrivenBy_21 : decode cX1_isFirstDrivenBy 21 = .ok (.iconst 1, 1) := by decide +kernel
theorem dX1_isFirstDrivenBy_22 : decode cX1_isFirstDrivenBy 22 = .ok (.goto 4, 3) := by decide +kernel
theorem dX1_isFirstDrivenBy_25 : decode cX1_isFirstDrivenBy 25 = .ok (.iconst 0, 1) := by decide +kernel
theorem dX1_isFirstDrivenBy_26 : decode cX1_isFirstDrivenBy 26 = .ok (.ireturn, 1) := by decide +kernel
theorem dX1_isUsedBy_0 : decode cX1_isUsedBy 0 = .ok (.aload_n 0, 1) := by decide +kernel
theorem dX1_isUsedBy_1 : decode cX1_isUsedBy 1 = .ok (.getfield 36, 3) := by decide +kernel
theorem dX1_isUsedBy_4 : decode cX1_isUsedBy 4 = .ok (.iload_n 1, 1) := by decide +kernel
theorem dX1_isUsedBy_5 : decode cX1_isUsedBy 5 = .ok (.iaload, 1) := by decide +kernel
theorem dX1_isUsedBy_6 : decode cX1_isUsedBy 6 = .ok (.iconst 1, 1) := by decide +kernel
theorem dX1_isUsedBy_7 : decode cX1_isUsedBy 7 = .ok (.iload_n 2, 1) := by decide +kernel
theorem dX1_isUsedBy_8 : decode cX1_isUsedBy 8 = .ok (.ishl, 1) := by decide +kernel
theorem dX1_isUsedBy_9 : decode cX1_isUsedBy 9 = .ok (.iand, 1) := by decide +kernel
theorem dX1_isUsedBy_10 : decode cX1_isUsedBy 10 = .ok (.ifCond .eq 7, 3) := by decide +kernel
theorem dX1_isUsedBy_13 : decode cX1_isUsedBy 13 = .ok (.iconst 1, 1) := by decide +kernel
theorem dX1_isUsedBy_14 : decode cX1_isUsedBy 14 = .ok (.goto 4, 3) := by decide +kernel
theorem dX1_isUsedBy_17 : decode cX1_isUsedBy 17 = .ok (.iconst 0, 1) := by decide +kernel
theorem dX1_isUsedBy_18 : decode cX1_isUsedBy 18 = .ok (.ireturn, 1) := by decide +kernel
theorem dX1_firstLineOf_0 : decode cX1_firstLineOf 0 = .ok (.iload_n 1, 1) := by decide +kernel
theorem dX1_firstLineOf_1 : decode cX1_firstLineOf 1 = .ok (.invokestatic 55, 3) := by decide +kernel
theorem dX1_firstLineOf_4 : decode cX1_firstLineOf 4 = .ok (.ifCond .eq 12, 3) := by decide +kernel
theorem dX1_firstLineOf_7 : decode cX1_firstLineOf 7 = .ok (.aload_n 0, 1) := by decide +kernel
theorem dX1_firstLineOf_8 : decode cX1_firstLineOf 8 = .ok (.getfield 42, 3) := by decide +kernel
theorem dX1_firstLineOf_11 : decode cX1_firstLineOf 11 = .ok (.iload_n 1, 1) := by decide +kernel
theorem dX1_firstLineOf_12 : decode cX1_firstLineOf 12 = .ok (.iaload, 1) := by decide +kernel
theorem dX1_firstLineOf_13 : decode cX1_firstLineOf 13 = .ok (.goto 4, 3) := by decide +kernel
theorem dX1_firstLineOf_16 : decode cX1_firstLineOf 16 = .ok (.iconst (-1), 1) := by decide +kernel
theorem dX1_firstLineOf_17 : decode cX1_firstLineOf 17 = .ok (.istore_n 2, 1) := by decide +kernel
theorem dX1_firstLineOf_18 : decode cX1_firstLineOf 18 = .ok (.iload_n 2, 1) := by decide +kernel
theorem dX1_firstLineOf_19 : decode cX1_firstLineOf 19 = .ok (.ifCond .lt 15, 3) := by decide +kernel
theorem dX1_firstLineOf_22 : decode cX1_firstLineOf 22 = .ok (.iload_n 2, 1) := by decide +kernel
theorem dX1_firstLineOf_23 : decode cX1_firstLineOf 23 = .ok (.aload_n 0, 1) := by decide +kernel
theorem dX1_firstLineOf_24 : decode cX1_firstLineOf 24 = .ok (.getfield 51, 3) := by decide +kernel
theorem dX1_firstLineOf_27 : decode cX1_firstLineOf 27 = .ok (.if_icmp .ge 7, 3) := by decide +kernel
theorem dX1_firstLineOf_30 : decode cX1_firstLineOf 30 = .ok (.iload_n 2, 1) := by decide +kernel
theorem dX1_firstLineOf_31 : decode cX1_firstLineOf 31 = .ok (.goto 4, 3) := by decide +kernel
theorem dX1_firstLineOf_34 : decode cX1_firstLineOf 34 = .ok (.iconst (-1), 1) := by decide +kernel
theorem dX1_firstLineOf_35 : decode cX1_firstLineOf 35 = .ok (.ireturn, 1) := by decide +kernel
theorem dX1_pinsOf_0 : decode cX1_pinsOf 0 = .ok (.iconst 1, 1) := by decide +kernel
theorem dX1_pinsOf_1 : decode cX1_pinsOf 1 = .ok (.aload_n 0, 1) := by decide +kernel
theorem dX1_pinsOf_2 : decode cX1_pinsOf 2 = .ok (.getfield 18, 3) := by decide +kernel
theorem dX1_pinsOf_5 : decode cX1_pinsOf 5 = .ok (.iload_n 1, 1) := by decide +kernel
theorem dX1_pinsOf_6 : decode cX1_pinsOf 6 = .ok (.iaload, 1) := by decide +kernel
theorem dX1_pinsOf_7 : decode cX1_pinsOf 7 = .ok (.ishl, 1) := by decide +kernel
theorem dX1_pinsOf_8 : decode cX1_pinsOf 8 = .ok (.iconst 1, 1) := by decide +kernel
theorem dX1_pinsOf_9 : decode cX1_pinsOf 9 = .ok (.aload_n 0, 1) := by decide +kernel
theorem dX1_pinsOf_10 : decode cX1_pinsOf 10 = .ok (.getfield 21, 3) := by decide +kernel
theorem dX1_pinsOf_13 : decode cX1_pinsOf 13 = .ok (.iload_n 1, 1) := by decide +kernel
theorem dX1_pinsOf_14 : decode cX1_pinsOf 14 = .ok (.iaload, 1) := by decide +kernel
theorem dX1_pinsOf_15 : decode cX1_pinsOf 15 = .ok (.ishl, 1) := by decide +kernel
theorem dX1_pinsOf_16 : decode cX1_pinsOf 16 = .ok (.ior, 1) := by decide +kernel
theorem dX1_pinsOf_17 : decode cX1_pinsOf 17 = .ok (.iconst 1, 1) := by decide +kernel
theorem dX1_pinsOf_18 : decode cX1_pinsOf 18 = .ok (.aload_n 0, 1) := by decide +kernel
theorem dX1_pinsOf_19 : decode cX1_pinsOf 19 = .ok (.getfield 24, 3) := by decide +kernel
theorem dX1_pinsOf_22 : decode cX1_pinsOf 22 = .ok (.iload_n 1, 1) := by decide +kernel
theorem dX1_pinsOf_23 : decode cX1_pinsOf 23 = .ok (.iaload, 1) := by decide +kernel
theorem dX1_pinsOf_24 : decode cX1_pinsOf 24 = .ok (.ishl, 1) := by decide +kernel
theorem dX1_pinsOf_25 : decode cX1_pinsOf 25 = .ok (.ior, 1) := by decide +kernel
theorem dX1_pinsOf_26 : decode cX1_pinsOf 26 = .ok (.ireturn, 1) := by decide +kernel
theorem dX2_init_0 : decode cX2_init 0 = .ok (.aload_n 0, 1) := by decide +kernel
theorem dX2_init_1 : decode cX2_init 1 = .ok (.invokespecial 3, 3) := by decide +kernel
theorem dX2_init_4 : decode cX2_init 4 = .ok (.aload_n 0, 1) := by decide +kernel
theorem dX2_init_5 : decode cX2_init 5 = .ok (.bipush 54, 2) := by decide +kernel
theorem dX2_init_7 : decode cX2_init 7 = .ok (.newarray .int, 2) := by decide +kernel
theorem dX2_init_9 : decode cX2_init 9 = .ok (.putfield 9, 3) := by decide +kernel
theorem dX2_init_12 : decode cX2_init 12 = .ok (.aload_n 0, 1) := by decide +kernel
theorem dX2_init_13 : decode cX2_init 13 = .ok (.bipush 54, 2) := by decide +kernel
theorem dX2_init_15 : decode cX2_init 15 = .ok (.newarray .int, 2) := by decide +kernel
theorem dX2_init_17 : decode cX2_init 17 = .ok (.putfield 15, 3) := by decide +kernel
theorem dX2_init_20 : decode cX2_init 20 = .ok (.aload_n 0, 1) := by decide +kernel
theorem dX2_init_21 : decode cX2_init 21 = .ok (.bipush 30, 2) := by decide +kernel
theorem dX2_init_23 : decode cX2_init 23 = .ok (.newarray .boolean, 2) := by decide +kernel
theorem dX2_init_25 : decode cX2_init 25 = .ok (.putfield 18, 3) := by decide +kernel
theorem dX2_init_28 : decode cX2_init 28 = .ok (.aload_n 0, 1) := by decide +kernel
theorem dX2_init_29 : decode cX2_init 29 = .ok (.bipush 24, 2) := by decide +kernel
theorem dX2_init_31 : decode cX2_init 31 = .ok (.newarray .int, 2) := by decide +kernel
theorem dX2_init_33 : decode cX2_init 33 = .ok (.putfield 22, 3) := by decide +kernel
theorem dX2_init_36 : decode cX2_init 36 = .ok (.aload_n 0, 1) := by decide +kernel
theorem dX2_init_37 : decode cX2_init 37 = .ok (.iconst 0, 1) := by decide +kernel
theorem dX2_init_38 : decode cX2_init 38 = .ok (.putfield 25, 3) := by decide +kernel
theorem dX2_init_41 : decode cX2_init 41 = .ok (.aload_n 0, 1) := by decide +kernel
theorem dX2_init_42 : decode cX2_init 42 = .ok (.iconst 0, 1) := by decide +kernel
theorem dX2_init_43 : decode cX2_init 43 = .ok (.putfield 29, 3) := by decide +kernel
theorem dX2_init_46 : decode cX2_init 46 = .ok (.return_, 1) := by decide +kernel
theorem dX2_find_0 : decode cX2_find 0 = .ok (.aload_n 0, 1) := by decide +kernel
theorem dX2_find_1 : decode cX2_find 1 = .ok (.iconst 0, 1) := by decide +kernel
theorem dX2_find_2 : decode cX2_find 2 = .ok (.putfield 25, 3) := by decide +kernel
theorem dX2_find_5 : decode cX2_find 5 = .ok (.iconst 0, 1) := by decide +kernel
theorem dX2_find_6 : decode cX2_find 6 = .ok (.istore_n 2, 1) := by decide +kernel
theorem dX2_find_7 : decode cX2_find 7 = .ok (.iload_n 2, 1) := by decide +kernel
theorem dX2_find_8 : decode cX2_find 8 = .ok (.bipush 24, 2) := by decide +kernel
theorem dX2_find_10 : decode cX2_find 10 = .ok (.if_icmp .ge 52, 3) := by decide +kernel
theorem dX2_find_13 : decode cX2_find 13 = .ok (.aload_n 1, 1) := by decide +kernel
theorem dX2_find_14 : decode cX2_find 14 = .ok (.getfield 33, 3) := by decide +kernel
theorem dX2_find_17 : decode cX2_find 17 = .ok (.iload_n 2, 1) := by decide +kernel
theorem dX2_find_18 : decode cX2_find 18 = .ok (.iaload, 1) := by decide +kernel
theorem dX2_find_19 : decode cX2_find 19 = .ok (.iconst 1, 1) := by decide +kernel
theorem dX2_find_20 : decode cX2_find 20 = .ok (.if_icmp .le 12, 3) := by decide +kernel
theorem dX2_find_23 : decode cX2_find 23 = .ok (.aload_n 0, 1) := by decide +kernel
theorem dX2_find_24 : decode cX2_find 24 = .ok (.iconst 1, 1) := by decide +kernel
theorem dX2_find_25 : decode cX2_find 25 = .ok (.iload_n 2, 1) := by decide +kernel
theorem dX2_find_26 : decode cX2_find 26 = .ok (.invokevirtual 38, 3) := by decide +kernel
theorem dX2_find_29 : decode cX2_find 29 = .ok (.goto 27, 3) := by decide +kernel
theorem dX2_find_32 : decode cX2_find 32 = .ok (.aload_n 1, 1) := by decide +kernel
theorem dX2_find_33 : decode cX2_find 33 = .ok (.getfield 33, 3) := by decide +kernel
theorem dX2_find_36 : decode cX2_find 36 = .ok (.iload_n 2, 1) := by decide +kernel
theorem dX2_find_37 : decode cX2_find 37 = .ok (.iaload, 1) := by decide +kernel
theorem dX2_find_38 : decode cX2_find 38 = .ok (.ifCond .ne 18, 3) := by decide +kernel
theorem dX2_find_41 : decode cX2_find 41 = .ok (.aload_n 1, 1) := by decide +kernel
theorem dX2_find_42 : decode cX2_find 42 = .ok (.getfield 42, 3) := by decide +kernel
theorem dX2_find_45 : decode cX2_find 45 = .ok (.iload_n 2, 1) := by decide +kernel
theorem dX2_find_46 : decode cX2_find 46 = .ok (.iaload, 1) := by decide +kernel
theorem dX2_find_47 : decode cX2_find 47 = .ok (.ifCond .eq 9, 3) := by decide +kernel
theorem dX2_find_50 : decode cX2_find 50 = .ok (.aload_n 0, 1) := by decide +kernel
theorem dX2_find_51 : decode cX2_find 51 = .ok (.iconst 2, 1) := by decide +kernel
theorem dX2_find_52 : decode cX2_find 52 = .ok (.iload_n 2, 1) := by decide +kernel
theorem dX2_find_53 : decode cX2_find 53 = .ok (.invokevirtual 38, 3) := by decide +kernel
theorem dX2_find_56 : decode cX2_find 56 = .ok (.iinc 2 1, 3) := by decide +kernel
theorem dX2_find_59 : decode cX2_find 59 = .ok (.goto (-52), 3) := by decide +kernel
theorem dX2_find_62 : decode cX2_find 62 = .ok (.aload_n 0, 1) := by decide +kernel
theorem dX2_find_63 : decode cX2_find 63 = .ok (.aload_n 0, 1) := by decide +kernel
theorem dX2_find_64 : decode cX2_find 64 = .ok (.getfield 25, 3) := by decide +kernel
theorem dX2_find_67 : decode cX2_find 67 = .ok (.ifCond .le 7, 3) := by decide +kernel
theorem dX2_find_70 : decode cX2_find 70 = .ok (.iconst 1, 1) := by decide +kernel
theorem dX2_find_71 : decode cX2_find 71 = .ok (.goto 4, 3) := by decide +kernel
theorem dX2_find_74 : decode cX2_find 74 = .ok (.iconst 0, 1) := by decide +kernel
theorem dX2_find_75 : decode cX2_find 75 = .ok (.putfield 29, 3) := by decide +kernel
theorem dX2_find_78 : decode cX2_find 78 = .ok (.aload_n 0, 1) := by decide +kernel
theorem dX2_find_79 : decode cX2_find 79 = .ok (.aload_n 1, 1) := by decide +kernel
theorem dX2_find_80 : decode cX2_find 80 = .ok (.invokevirtual 45, 3) := by decide +kernel
theorem dX2_find_83 : decode cX2_find 83 = .ok (.iconst 0, 1) := by decide +kernel
theorem dX2_find_84 : decode cX2_find 84 = .ok (.istore_n 2, 1) := by decide +kernel
theorem dX2_find_85 : decode cX2_find 85 = .ok (.iload_n 2, 1) := by decide +kernel
theorem dX2_find_86 : decode cX2_find 86 = .ok (.aload_n 1, 1) := by decide +kernel
theorem dX2_find_87 : decode cX2_find 87 = .ok (.getfield 49, 3) := by decide +kernel
theorem dX2_find_90 : decode cX2_find 90 = .ok (.if_icmp .ge 62, 3) := by decide +kernel
theorem dX2_find_93 : decode cX2_find 93 = .ok (.aload_n 0, 1) := by decide +kernel
theorem dX2_find_94 : decode cX2_find 94 = .ok (.getfield 18, 3) := by decide +kernel
theorem dX2_find_97 : decode cX2_find 97 = .ok (.iload_n 2, 1) := by decide +kernel
theorem dX2_find_98 : decode cX2_find 98 = .ok (.aload_n 1, 1) := by decide +kernel
theorem dX2_find_99 : decode cX2_find 99 = .ok (.iload_n 2, 1) := by decide +kernel
theorem dX2_find_100 : decode cX2_find 100 = .ok (.invokevirtual 50, 3) := by decide +kernel
theorem dX2_find_103 : decode cX2_find 103 = .ok (.ifCond .eq 26, 3) := by decide +kernel
theorem dX2_find_106 : decode cX2_find 106 = .ok (.aload_n 0, 1) := by decide +kernel
theorem dX2_find_107 : decode cX2_find 107 = .ok (.aload_n 1, 1) := by decide +kernel
theorem dX2_find_108 : decode cX2_find 108 = .ok (.getfield 54, 3) := by decide +kernel
theorem dX2_find_111 : decode cX2_find 111 = .ok (.iload_n 2, 1) := by decide +kernel
theorem dX2_find_112 : decode cX2_find 112 = .ok (.iaload, 1) := by decide +kernel
theorem dX2_find_113 : decode cX2_find 113 = .ok (.invokevirtual 57, 3) := by decide +kernel
theorem dX2_find_116 : decode cX2_find 116 = .ok (.aload_n 1, 1) := by decide +kernel
theorem dX2_find_117 : decode cX2_find 117 = .ok (.iload_n 2, 1) := by decide +kernel
theorem dX2_find_118 : decode cX2_find 118 = .ok (.invokevirtual 61, 3) := by decide +kernel
theorem dX2_find_121 : decode cX2_find 121 = .ok (.iand, 1) := by decide +kernel
theorem dX2_find_122 : decode cX2_find 122 = .ok (.ifCond .eq 7, 3) := by decide +kernel
theorem dX2_find_125 : decode cX2_find 125 = .ok (.iconst 1, 1) := by decide +kernel
theorem dX2_find_126 : decode cX2_find 126 = .ok (.goto 4, 3) := by decide +kernel
theorem dX2_find_129 : decode cX2_find 129 = .ok (.iconst 0, 1) := by decide +kernel
theorem dX2_find_130 : decode cX2_find 130 = .ok (.bastore, 1) := by decide +kernel
theorem dX2_find_131 : decode cX2_find 131 = .ok (.aload_n 0, 1) := by decide +kernel
theorem dX2_find_132 : decode cX2_find 132 = .ok (.getfield 18, 3) := by decide +kernel
theorem dX2_find_135 : decode cX2_find 135 = .ok (.iload_n 2, 1) := by decide +kernel
theorem dX2_find_136 : decode cX2_find 136 = .ok (.baload, 1) := by decide +kernel
theorem dX2_find_137 : decode cX2_find 137 = .ok (.ifCond .eq 9, 3) := by decide +kernel
theorem dX2_find_140 : decode cX2_find 140 = .ok (.aload_n 0, 1) := by decide +kernel
theorem dX2_find_141 : decode cX2_find 141 = .ok (.iconst 3, 1) := by decide +kernel
theorem dX2_find_142 : decode cX2_find 142 = .ok (.iload_n 2, 1) := by decide +kernel
theorem dX2_find_143 : decode cX2_find 143 = .ok (.invokevirtual 38, 3) := by decide +kernel
theorem dX2_find_146 : decode cX2_find 146 = .ok (.iinc 2 1, 3) := by decide +kernel
theorem dX2_find_149 : decode cX2_find 149 = .ok (.goto (-64), 3) := by decide +kernel
theorem dX2_find_152 : decode cX2_find 152 = .ok (.return_, 1) := by decide +kernel
theorem dX2_note_0 : decode cX2_note 0 = .ok (.aload_n 0, 1) := by decide +kernel
theorem dX2_note_1 : decode cX2_note 1 = .ok (.getfield 25, 3) := by decide +kernel
theorem dX2_note_4 : decode cX2_note 4 = .ok (.bipush 54, 2) := by decide +kernel
theorem dX2_note_6 : decode cX2_note 6 = .ok (.if_icmp .ge 33, 3) := by decide +kernel
theorem dX2_note_9 : decode cX2_note 9 = .ok (.aload_n 0, 1) := by decide +kernel
theorem dX2_note_10 : decode cX2_note 10 = .ok (.getfield 9, 3) := by decide +kernel
theorem dX2_note_13 : decode cX2_note 13 = .ok (.aload_n 0, 1) := by decide +kernel
theorem dX2_note_14 : decode cX2_note 14 = .ok (.getfield 25, 3) := by decide +kernel
theorem dX2_note_17 : decode cX2_note 17 = .ok (.iload_n 1, 1) := by decide +kernel
theorem dX2_note_18 : decode cX2_note 18 = .ok (.iastore, 1) := by decide +kernel
theorem dX2_note_19 : decode cX2_note 19 = .ok (.aload_n 0, 1) := by decide +kernel
theorem dX2_note_20 : decode cX2_note 20 = .ok (.getfield 15, 3) := by decide +kernel
theorem dX2_note_23 : decode cX2_note 23 = .ok (.aload_n 0, 1) := by decide +kernel
theorem dX2_note_24 : decode cX2_note 24 = .ok (.getfield 25, 3) := by decide +kernel
theorem dX2_note_27 : decode cX2_note 27 = .ok (.iload_n 2, 1) := by decide +kernel
theorem dX2_note_28 : decode cX2_note 28 = .ok (.iastore, 1) := by decide +kernel
theorem dX2_note_29 : decode cX2_note 29 = .ok (.aload_n 0, 1) := by decide +kernel
theorem dX2_note_30 : decode cX2_note 30 = .ok (.dup, 1) := by decide +kernel
theorem dX2_note_31 : decode cX2_note 31 = .ok (.getfield 25, 3) := by decide +kernel
theorem dX2_note_34 : decode cX2_note 34 = .ok (.iconst 1, 1) := by decide +kernel
theorem dX2_note_35 : decode cX2_note 35 = .ok (.iadd, 1) := by decide +kernel
theorem dX2_note_36 : decode cX2_note 36 = .ok (.putfield 25, 3) := by decide +kernel
theorem dX2_note_39 : decode cX2_note 39 = .ok (.return_, 1) := by decide +kernel
theorem dX2_findReach_0 : decode cX2_findReach 0 = .ok (.iconst 0, 1) := by decide +kernel
theorem dX2_findReach_1 : decode cX2_findReach 1 = .ok (.istore_n 2, 1) := by decide +kernel
theorem dX2_findReach_2 : decode cX2_findReach 2 = .ok (.iload_n 2, 1) := by decide +kernel
theorem dX2_findReach_3 : decode cX2_findReach 3 = .ok (.bipush 24, 2) := by decide +kernel
theorem dX2_findReach_5 : decode cX2_findReach 5 = .ok (.if_icmp .ge 68, 3) := by decide +kernel
theorem dX2_findReach_8 : decode cX2_findReach 8 = .ok (.aload_n 0, 1) := by decide +kernel
theorem dX2_findReach_9 : decode cX2_findReach 9 = .ok (.getfield 22, 3) := by decide +kernel
theorem dX2_findReach_12 : decode cX2_findReach 12 = .ok (.iload_n 2, 1) := by decide +kernel
theorem dX2_findReach_13 : decode cX2_findReach 13 = .ok (.iconst 1, 1) := by decide +kernel
theorem dX2_findReach_14 : decode cX2_findReach 14 = .ok (.iload_n 2, 1) := by decide +kernel
theorem dX2_findReach_15 : decode cX2_findReach 15 = .ok (.ishl, 1) := by decide +kernel
theorem dX2_findReach_16 : decode cX2_findReach 16 = .ok (.iastore, 1) := by decide +kernel
theorem dX2_findReach_17 : decode cX2_findReach 17 = .ok (.iconst 0, 1) := by decide +kernel
theorem dX2_findReach_18 : decode cX2_findReach 18 = .ok (.istore_n 3, 1) := by decide +kernel
theorem dX2_findReach_19 : decode cX2_findReach 19 = .ok (.iload_n 3, 1) := by decide +kernel
theorem dX2_findReach_20 : decode cX2_findReach 20 = .ok (.aload_n 1, 1) := by decide +kernel
theorem dX2_findReach_21 : decode cX2_findReach 21 = .ok (.getfield 49, 3) := by decide +kernel
theorem dX2_findReach_24 : decode cX2_findReach 24 = .ok (.if_icmp .ge 43, 3) := by decide +kernel
theorem dX2_findReach_27 : decode cX2_findReach 27 = .ok (.aload_n 1, 1) := by decide +kernel
theorem dX2_findReach_28 : decode cX2_findReach 28 = .ok (.iload_n 3, 1) := by decide +kernel
theorem dX2_findReach_29 : decode cX2_findReach 29 = .ok (.invokevirtual 50, 3) := by decide +kernel
theorem dX2_findReach_32 : decode cX2_findReach 32 = .ok (.ifCond .eq 29, 3) := by decide +kernel
theorem dX2_findReach_35 : decode cX2_findReach 35 = .ok (.aload_n 1, 1) := by decide +kernel
theorem dX2_findReach_36 : decode cX2_findReach 36 = .ok (.iload_n 2, 1) := by decide +kernel
theorem dX2_findReach_37 : decode cX2_findReach 37 = .ok (.iload_n 3, 1) := by decide +kernel
theorem dX2_findReach_38 : decode cX2_findReach 38 = .ok (.invokevirtual 64, 3) := by decide +kernel
theorem dX2_findReach_41 : decode cX2_findReach 41 = .ok (.ifCond .eq 20, 3) := by decide +kernel
theorem dX2_findReach_44 : decode cX2_findReach 44 = .ok (.aload_n 0, 1) := by decide +kernel
theorem dX2_findReach_45 : decode cX2_findReach 45 = .ok (.getfield 22, 3) := by decide +kernel
theorem dX2_findReach_48 : decode cX2_findReach 48 = .ok (.iload_n 2, 1) := by decide +kernel
theorem dX2_findReach_49 : decode cX2_findReach 49 = .ok (.dup2, 1) := by decide +kernel
theorem dX2_findReach_50 : decode cX2_findReach 50 = .ok (.iaload, 1) := by decide +kernel
theorem dX2_findReach_51 : decode cX2_findReach 51 = .ok (.iconst 1, 1) := by decide +kernel
theorem dX2_findReach_52 : decode cX2_findReach 52 = .ok (.aload_n 1, 1) := by decide +kernel
theorem dX2_findReach_53 : decode cX2_findReach 53 = .ok (.getfield 54, 3) := by decide +kernel
theorem dX2_findReach_56 : decode cX2_findReach 56 = .ok (.iload_n 3, 1) := by decide +kernel
theorem dX2_findReach_57 : decode cX2_findReach 57 = .ok (.iaload, 1) := by decide +kernel
theorem dX2_findReach_58 : decode cX2_findReach 58 = .ok (.ishl, 1) := by decide +kernel
theorem dX2_findReach_59 : decode cX2_findReach 59 = .ok (.ior, 1) := by decide +kernel
theorem dX2_findReach_60 : decode cX2_findReach 60 = .ok (.iastore, 1) := by decide +kernel
theorem dX2_findReach_61 : decode cX2_findReach 61 = .ok (.iinc 3 1, 3) := by decide +kernel
theorem dX2_findReach_64 : decode cX2_findReach 64 = .ok (.goto (-45), 3) := by decide +kernel
theorem dX2_findReach_67 : decode cX2_findReach 67 = .ok (.iinc 2 1, 3) := by decide +kernel
theorem dX2_findReach_70 : decode cX2_findReach 70 = .ok (.goto (-68), 3) := by decide +kernel
theorem dX2_findReach_73 : decode cX2_findReach 73 = .ok (.iconst 0, 1) := by decide +kernel
theorem dX2_findReach_74 : decode cX2_findReach 74 = .ok (.istore_n 2, 1) := by decide +kernel
theorem dX2_findReach_75 : decode cX2_findReach 75 = .ok (.iload_n 2, 1) := by decide +kernel
theorem dX2_findReach_76 : decode cX2_findReach 76 = .ok (.bipush 24, 2) := by decide +kernel
theorem dX2_findReach_78 : decode cX2_findReach 78 = .ok (.if_icmp .ge 51, 3) := by decide +kernel
theorem dX2_findReach_81 : decode cX2_findReach 81 = .ok (.iconst 0, 1) := by decide +kernel
theorem dX2_findReach_82 : decode cX2_findReach 82 = .ok (.istore_n 3, 1) := by decide +kernel
theorem dX2_findReach_83 : decode cX2_findReach 83 = .ok (.iload_n 3, 1) := by decide +kernel
theorem dX2_findReach_84 : decode cX2_findReach 84 = .ok (.bipush 24, 2) := by decide +kernel
theorem dX2_findReach_86 : decode cX2_findReach 86 = .ok (.if_icmp .ge 37, 3) := by decide +kernel
theorem dX2_findReach_89 : decode cX2_findReach 89 = .ok (.aload_n 0, 1) := by decide +kernel
theorem dX2_findReach_90 : decode cX2_findReach 90 = .ok (.getfield 22, 3) := by decide +kernel
theorem dX2_findReach_93 : decode cX2_findReach 93 = .ok (.iload_n 3, 1) := by decide +kernel
theorem dX2_findReach_94 : decode cX2_findReach 94 = .ok (.iaload, 1) := by decide +kernel
theorem dX2_findReach_95 : decode cX2_findReach 95 = .ok (.iconst 1, 1) := by decide +kernel
theorem dX2_findReach_96 : decode cX2_findReach 96 = .ok (.iload_n 2, 1) := by decide +kernel
theorem dX2_findReach_97 : decode cX2_findReach 97 = .ok (.ishl, 1) := by decide +kernel
theorem dX2_findReach_98 : decode cX2_findReach 98 = .ok (.iand, 1) := by decide +kernel
theorem dX2_findReach_99 : decode cX2_findReach 99 = .ok (.ifCond .eq 18, 3) := by decide +kernel
theorem dX2_findReach_102 : decode cX2_findReach 102 = .ok (.aload_n 0, 1) := by decide +kernel
theorem dX2_findReach_103 : decode cX2_findReach 103 = .ok (.getfield 22, 3) := by decide +kernel
theorem dX2_findReach_106 : decode cX2_findReach 106 = .ok (.iload_n 3, 1) := by decide +kernel
theorem dX2_findReach_107 : decode cX2_findReach 107 = .ok (.dup2, 1) := by decide +kernel
theorem dX2_findReach_108 : decode cX2_findReach 108 = .ok (.iaload, 1) := by decide +kernel
theorem dX2_findReach_109 : decode cX2_findReach 109 = .ok (.aload_n 0, 1) := by decide +kernel
theorem dX2_findReach_110 : decode cX2_findReach 110 = .ok (.getfield 22, 3) := by decide +kernel
theorem dX2_findReach_113 : decode cX2_findReach 113 = .ok (.iload_n 2, 1) := by decide +kernel
theorem dX2_findReach_114 : decode cX2_findReach 114 = .ok (.iaload, 1) := by decide +kernel
theorem dX2_findReach_115 : decode cX2_findReach 115 = .ok (.ior, 1) := by decide +kernel
theorem dX2_findReach_116 : decode cX2_findReach 116 = .ok (.iastore, 1) := by decide +kernel
theorem dX2_findReach_117 : decode cX2_findReach 117 = .ok (.iinc 3 1, 3) := by decide +kernel
theorem dX2_findReach_120 : decode cX2_findReach 120 = .ok (.goto (-37), 3) := by decide +kernel
theorem dX2_findReach_123 : decode cX2_findReach 123 = .ok (.iinc 2 1, 3) := by decide +kernel
theorem dX2_findReach_126 : decode cX2_findReach 126 = .ok (.goto (-51), 3) := by decide +kernel
theorem dX2_findReach_129 : decode cX2_findReach 129 = .ok (.return_, 1) := by decide +kernel
theorem dX2_reachOf_0 : decode cX2_reachOf 0 = .ok (.iload_n 1, 1) := by decide +kernel
theorem dX2_reachOf_1 : decode cX2_reachOf 1 = .ok (.invokestatic 68, 3) := by decide +kernel
theorem dX2_reachOf_4 : decode cX2_reachOf 4 = .ok (.ifCond .eq 12, 3) := by decide +kernel
theorem dX2_reachOf_7 : decode cX2_reachOf 7 = .ok (.aload_n 0, 1) := by decide +kernel
theorem dX2_reachOf_8 : decode cX2_reachOf 8 = .ok (.getfield 22, 3) := by decide +kernel
theorem dX2_reachOf_11 : decode cX2_reachOf 11 = .ok (.iload_n 1, 1) := by decide +kernel
theorem dX2_reachOf_12 : decode cX2_reachOf 12 = .ok (.iaload, 1) := by decide +kernel
theorem dX2_reachOf_13 : decode cX2_reachOf 13 = .ok (.goto 4, 3) := by decide +kernel
theorem dX2_reachOf_16 : decode cX2_reachOf 16 = .ok (.iconst 0, 1) := by decide +kernel
theorem dX2_reachOf_17 : decode cX2_reachOf 17 = .ok (.ireturn, 1) := by decide +kernel
theorem dX3_init_0 : decode cX3_init 0 = .ok (.aload_n 0, 1) := by decide +kernel
theorem dX3_init_1 : decode cX3_init 1 = .ok (.invokespecial 3, 3) := by decide +kernel
theorem dX3_init_4 : decode cX3_init 4 = .ok (.aload_n 0, 1) := by decide +kernel
theorem dX3_init_5 : decode cX3_init 5 = .ok (.bipush 24, 2) := by decide +kernel
theorem dX3_init_7 : decode cX3_init 7 = .ok (.newarray .int, 2) := by decide +kernel
theorem dX3_init_9 : decode cX3_init 9 = .ok (.putfield 9, 3) := by decide +kernel
theorem dX3_init_12 : decode cX3_init 12 = .ok (.aload_n 0, 1) := by decide +kernel
theorem dX3_init_13 : decode cX3_init 13 = .ok (.bipush 24, 2) := by decide +kernel
theorem dX3_init_15 : decode cX3_init 15 = .ok (.newarray .int, 2) := by decide +kernel
theorem dX3_init_17 : decode cX3_init 17 = .ok (.putfield 15, 3) := by decide +kernel
theorem dX3_init_20 : decode cX3_init 20 = .ok (.aload_n 0, 1) := by decide +kernel
theorem dX3_init_21 : decode cX3_init 21 = .ok (.bipush 24, 2) := by decide +kernel
theorem dX3_init_23 : decode cX3_init 23 = .ok (.newarray .int, 2) := by decide +kernel
theorem dX3_init_25 : decode cX3_init 25 = .ok (.putfield 18, 3) := by decide +kernel
theorem dX3_init_28 : decode cX3_init 28 = .ok (.aload_n 0, 1) := by decide +kernel
theorem dX3_init_29 : decode cX3_init 29 = .ok (.bipush 24, 2) := by decide +kernel
theorem dX3_init_31 : decode cX3_init 31 = .ok (.newarray .int, 2) := by decide +kernel
theorem dX3_init_33 : decode cX3_init 33 = .ok (.putfield 21, 3) := by decide +kernel
theorem dX3_init_36 : decode cX3_init 36 = .ok (.aload_n 0, 1) := by decide +kernel
theorem dX3_init_37 : decode cX3_init 37 = .ok (.bipush 30, 2) := by decide +kernel
theorem dX3_init_39 : decode cX3_init 39 = .ok (.newarray .int, 2) := by decide +kernel
theorem dX3_init_41 : decode cX3_init 41 = .ok (.putfield 24, 3) := by decide +kernel
theorem dX3_init_44 : decode cX3_init 44 = .ok (.aload_n 0, 1) := by decide +kernel
theorem dX3_init_45 : decode cX3_init 45 = .ok (.bipush 30, 2) := by decide +kernel
theorem dX3_init_47 : decode cX3_init 47 = .ok (.newarray .int, 2) := by decide +kernel
theorem dX3_init_49 : decode cX3_init 49 = .ok (.putfield 27, 3) := by decide +kernel
theorem dX3_init_52 : decode cX3_init 52 = .ok (.aload_n 0, 1) := by decide +kernel
theorem dX3_init_53 : decode cX3_init 53 = .ok (.bipush 30, 2) := by decide +kernel
theorem dX3_init_55 : decode cX3_init 55 = .ok (.newarray .int, 2) := by decide +kernel
theorem dX3_init_57 : decode cX3_init 57 = .ok (.putfield 30, 3) := by decide +kernel
theorem dX3_init_60 : decode cX3_init 60 = .ok (.aload_n 0, 1) := by decide +kernel
theorem dX3_init_61 : decode cX3_init 61 = .ok (.bipush 30, 2) := by decide +kernel
theorem dX3_init_63 : decode cX3_init 63 = .ok (.newarray .int, 2) := by decide +kernel
theorem dX3_init_65 : decode cX3_init 65 = .ok (.putfield 33, 3) := by decide +kernel
theorem dX3_init_68 : decode cX3_init 68 = .ok (.aload_n 0, 1) := by decide +kernel
theorem dX3_init_69 : decode cX3_init 69 = .ok (.bipush 40, 2) := by decide +kernel
theorem dX3_init_71 : decode cX3_init 71 = .ok (.newarray .int, 2) := by decide +kernel
theorem dX3_init_73 : decode cX3_init 73 = .ok (.putfield 36, 3) := by decide +kernel
theorem dX3_init_76 : decode cX3_init 76 = .ok (.aload_n 0, 1) := by decide +kernel
theorem dX3_init_77 : decode cX3_init 77 = .ok (.bipush 40, 2) := by decide +kernel
theorem dX3_init_79 : decode cX3_init 79 = .ok (.newarray .int, 2) := by decide +kernel
theorem dX3_init_81 : decode cX3_init 81 = .ok (.putfield 39, 3) := by decide +kernel
theorem dX3_init_84 : decode cX3_init 84 = .ok (.aload_n 0, 1) := by decide +kernel
theorem dX3_init_85 : decode cX3_init 85 = .ok (.bipush 40, 2) := by decide +kernel
theorem dX3_init_87 : decode cX3_init 87 = .ok (.newarray .int, 2) := by decide +kernel
theorem dX3_init_89 : decode cX3_init 89 = .ok (.putfield 42, 3) := by decide +kernel
theorem dX3_init_92 : decode cX3_init 92 = .ok (.aload_n 0, 1) := by decide +kernel
theorem dX3_init_93 : decode cX3_init 93 = .ok (.aload_n 1, 1) := by decide +kernel
theorem dX3_init_94 : decode cX3_init 94 = .ok (.putfield 45, 3) := by decide +kernel
theorem dX3_init_97 : decode cX3_init 97 = .ok (.aload_n 0, 1) := by decide +kernel
theorem dX3_init_98 : decode cX3_init 98 = .ok (.invokevirtual 49, 3) := by decide +kernel
theorem dX3_init_101 : decode cX3_init 101 = .ok (.return_, 1) := by decide +kernel
theorem dX3_clear_0 : decode cX3_clear 0 = .ok (.aload_n 0, 1) := by decide +kernel
theorem dX3_clear_1 : decode cX3_clear 1 = .ok (.getfield 9, 3) := by decide +kernel
theorem dX3_clear_4 : decode cX3_clear 4 = .ok (.iconst 2, 1) := by decide +kernel
theorem dX3_clear_5 : decode cX3_clear 5 = .ok (.invokestatic 52, 3) := by decide +kernel
theorem dX3_clear_8 : decode cX3_clear 8 = .ok (.aload_n 0, 1) := by decide +kernel
theorem dX3_clear_9 : decode cX3_clear 9 = .ok (.getfield 15, 3) := by decide +kernel
theorem dX3_clear_12 : decode cX3_clear 12 = .ok (.iconst (-1), 1) := by decide +kernel
theorem dX3_clear_13 : decode cX3_clear 13 = .ok (.invokestatic 52, 3) := by decide +kernel
theorem dX3_clear_16 : decode cX3_clear 16 = .ok (.aload_n 0, 1) := by decide +kernel
theorem dX3_clear_17 : decode cX3_clear 17 = .ok (.getfield 33, 3) := by decide +kernel
theorem dX3_clear_20 : decode cX3_clear 20 = .ok (.iconst (-1), 1) := by decide +kernel
theorem dX3_clear_21 : decode cX3_clear 21 = .ok (.invokestatic 52, 3) := by decide +kernel
theorem dX3_clear_24 : decode cX3_clear 24 = .ok (.aload_n 0, 1) := by decide +kernel
theorem dX3_clear_25 : decode cX3_clear 25 = .ok (.invokevirtual 58, 3) := by decide +kernel
theorem dX3_clear_28 : decode cX3_clear 28 = .ok (.aload_n 0, 1) := by decide +kernel
theorem dX3_clear_29 : decode cX3_clear 29 = .ok (.invokevirtual 61, 3) := by decide +kernel
theorem dX3_clear_32 : decode cX3_clear 32 = .ok (.aload_n 0, 1) := by decide +kernel
theorem dX3_clear_33 : decode cX3_clear 33 = .ok (.iconst 0, 1) := by decide +kernel
theorem dX3_clear_34 : decode cX3_clear 34 = .ok (.putfield 64, 3) := by decide +kernel
theorem dX3_clear_37 : decode cX3_clear 37 = .ok (.aload_n 0, 1) := by decide +kernel
theorem dX3_clear_38 : decode cX3_clear 38 = .ok (.iconst 0, 1) := by decide +kernel
theorem dX3_clear_39 : decode cX3_clear 39 = .ok (.putfield 68, 3) := by decide +kernel
theorem dX3_clear_42 : decode cX3_clear 42 = .ok (.aload_n 0, 1) := by decide +kernel
theorem dX3_clear_43 : decode cX3_clear 43 = .ok (.iconst 0, 1) := by decide +kernel
theorem dX3_clear_44 : decode cX3_clear 44 = .ok (.putfield 71, 3) := by decide +kernel
theorem dX3_clear_47 : decode cX3_clear 47 = .ok (.aload_n 0, 1) := by decide +kernel
theorem dX3_clear_48 : decode cX3_clear 48 = .ok (.iconst 0, 1) := by decide +kernel
theorem dX3_clear_49 : decode cX3_clear 49 = .ok (.putfield 74, 3) := by decide +kernel
theorem dX3_clear_52 : decode cX3_clear 52 = .ok (.aload_n 0, 1) := by decide +kernel
theorem dX3_clear_53 : decode cX3_clear 53 = .ok (.iconst 0, 1) := by decide +kernel
theorem dX3_clear_54 : decode cX3_clear 54 = .ok (.putfield 77, 3) := by decide +kernel
theorem dX3_clear_57 : decode cX3_clear 57 = .ok (.aload_n 0, 1) := by decide +kernel
theorem dX3_clear_58 : decode cX3_clear 58 = .ok (.iconst 0, 1) := by decide +kernel
theorem dX3_clear_59 : decode cX3_clear 59 = .ok (.putfield 80, 3) := by decide +kernel
theorem dX3_clear_62 : decode cX3_clear 62 = .ok (.return_, 1) := by decide +kernel
theorem dX3_copyFrom_0 : decode cX3_copyFrom 0 = .ok (.aload_n 1, 1) := by decide +kernel
theorem dX3_copyFrom_1 : decode cX3_copyFrom 1 = .ok (.getfield 9, 3) := by decide +kernel
theorem dX3_copyFrom_4 : decode cX3_copyFrom 4 = .ok (.iconst 0, 1) := by decide +kernel
theorem dX3_copyFrom_5 : decode cX3_copyFrom 5 = .ok (.aload_n 0, 1) := by decide +kernel
theorem dX3_copyFrom_6 : decode cX3_copyFrom 6 = .ok (.getfield 9, 3) := by decide +kernel
theorem dX3_copyFrom_9 : decode cX3_copyFrom 9 = .ok (.iconst 0, 1) := by decide +kernel
theorem dX3_copyFrom_10 : decode cX3_copyFrom 10 = .ok (.bipush 24, 2) := by decide +kernel
theorem dX3_copyFrom_12 : decode cX3_copyFrom 12 = .ok (.invokestatic 83, 3) := by decide +kernel
theorem dX3_copyFrom_15 : decode cX3_copyFrom 15 = .ok (.aload_n 1, 1) := by decide +kernel
theorem dX3_copyFrom_16 : decode cX3_copyFrom 16 = .ok (.getfield 15, 3) := by decide +kernel
theorem dX3_copyFrom_19 : decode cX3_copyFrom 19 = .ok (.iconst 0, 1) := by decide +kernel
theorem dX3_copyFrom_20 : decode cX3_copyFrom 20 = .ok (.aload_n 0, 1) := by decide +kernel
theorem dX3_copyFrom_21 : decode cX3_copyFrom 21 = .ok (.getfield 15, 3) := by decide +kernel
theorem dX3_copyFrom_24 : decode cX3_copyFrom 24 = .ok (.iconst 0, 1) := by decide +kernel
theorem dX3_copyFrom_25 : decode cX3_copyFrom 25 = .ok (.bipush 24, 2) := by decide +kernel
theorem dX3_copyFrom_27 : decode cX3_copyFrom 27 = .ok (.invokestatic 83, 3) := by decide +kernel
theorem dX3_copyFrom_30 : decode cX3_copyFrom 30 = .ok (.aload_n 1, 1) := by decide +kernel
theorem dX3_copyFrom_31 : decode cX3_copyFrom 31 = .ok (.getfield 18, 3) := by decide +kernel
theorem dX3_copyFrom_34 : decode cX3_copyFrom 34 = .ok (.iconst 0, 1) := by decide +kernel
theorem dX3_copyFrom_35 : decode cX3_copyFrom 35 = .ok (.aload_n 0, 1) := by decide +kernel
theorem dX3_copyFrom_36 : decode cX3_copyFrom 36 = .ok (.getfield 18, 3) := by decide +kernel
theorem dX3_copyFrom_39 : decode cX3_copyFrom 39 = .ok (.iconst 0, 1) := by decide +kernel
theorem dX3_copyFrom_40 : decode cX3_copyFrom 40 = .ok (.bipush 24, 2) := by decide +kernel
theorem dX3_copyFrom_42 : decode cX3_copyFrom 42 = .ok (.invokestatic 83, 3) := by decide +kernel
theorem dX3_copyFrom_45 : decode cX3_copyFrom 45 = .ok (.aload_n 1, 1) := by decide +kernel
theorem dX3_copyFrom_46 : decode cX3_copyFrom 46 = .ok (.getfield 21, 3) := by decide +kernel
theorem dX3_copyFrom_49 : decode cX3_copyFrom 49 = .ok (.iconst 0, 1) := by decide +kernel
theorem dX3_copyFrom_50 : decode cX3_copyFrom 50 = .ok (.aload_n 0, 1) := by decide +kernel
theorem dX3_copyFrom_51 : decode cX3_copyFrom 51 = .ok (.getfield 21, 3) := by decide +kernel
theorem dX3_copyFrom_54 : decode cX3_copyFrom 54 = .ok (.iconst 0, 1) := by decide +kernel
theorem dX3_copyFrom_55 : decode cX3_copyFrom 55 = .ok (.bipush 24, 2) := by decide +kernel
theorem dX3_copyFrom_57 : decode cX3_copyFrom 57 = .ok (.invokestatic 83, 3) := by decide +kernel
theorem dX3_copyFrom_60 : decode cX3_copyFrom 60 = .ok (.aload_n 1, 1) := by decide +kernel
theorem dX3_copyFrom_61 : decode cX3_copyFrom 61 = .ok (.getfield 24, 3) := by decide +kernel
theorem dX3_copyFrom_64 : decode cX3_copyFrom 64 = .ok (.iconst 0, 1) := by decide +kernel
theorem dX3_copyFrom_65 : decode cX3_copyFrom 65 = .ok (.aload_n 0, 1) := by decide +kernel
theorem dX3_copyFrom_66 : decode cX3_copyFrom 66 = .ok (.getfield 24, 3) := by decide +kernel
theorem dX3_copyFrom_69 : decode cX3_copyFrom 69 = .ok (.iconst 0, 1) := by decide +kernel
theorem dX3_copyFrom_70 : decode cX3_copyFrom 70 = .ok (.bipush 30, 2) := by decide +kernel
theorem dX3_copyFrom_72 : decode cX3_copyFrom 72 = .ok (.invokestatic 83, 3) := by decide +kernel
theorem dX3_copyFrom_75 : decode cX3_copyFrom 75 = .ok (.aload_n 1, 1) := by decide +kernel
theorem dX3_copyFrom_76 : decode cX3_copyFrom 76 = .ok (.getfield 27, 3) := by decide +kernel
theorem dX3_copyFrom_79 : decode cX3_copyFrom 79 = .ok (.iconst 0, 1) := by decide +kernel
theorem dX3_copyFrom_80 : decode cX3_copyFrom 80 = .ok (.aload_n 0, 1) := by decide +kernel
theorem dX3_copyFrom_81 : decode cX3_copyFrom 81 = .ok (.getfield 27, 3) := by decide +kernel
theorem dX3_copyFrom_84 : decode cX3_copyFrom 84 = .ok (.iconst 0, 1) := by decide +kernel
theorem dX3_copyFrom_85 : decode cX3_copyFrom 85 = .ok (.bipush 30, 2) := by decide +kernel
theorem dX3_copyFrom_87 : decode cX3_copyFrom 87 = .ok (.invokestatic 83, 3) := by decide +kernel
theorem dX3_copyFrom_90 : decode cX3_copyFrom 90 = .ok (.aload_n 1, 1) := by decide +kernel
theorem dX3_copyFrom_91 : decode cX3_copyFrom 91 = .ok (.getfield 30, 3) := by decide +kernel
theorem dX3_copyFrom_94 : decode cX3_copyFrom 94 = .ok (.iconst 0, 1) := by decide +kernel
theorem dX3_copyFrom_95 : decode cX3_copyFrom 95 = .ok (.aload_n 0, 1) := by decide +kernel
theorem dX3_copyFrom_96 : decode cX3_copyFrom 96 = .ok (.getfield 30, 3) := by decide +kernel
theorem dX3_copyFrom_99 : decode cX3_copyFrom 99 = .ok (.iconst 0, 1) := by decide +kernel
theorem dX3_copyFrom_100 : decode cX3_copyFrom 100 = .ok (.bipush 30, 2) := by decide +kernel
theorem dX3_copyFrom_102 : decode cX3_copyFrom 102 = .ok (.invokestatic 83, 3) := by decide +kernel
theorem dX3_copyFrom_105 : decode cX3_copyFrom 105 = .ok (.aload_n 1, 1) := by decide +kernel
theorem dX3_copyFrom_106 : decode cX3_copyFrom 106 = .ok (.getfield 33, 3) := by decide +kernel
theorem dX3_copyFrom_109 : decode cX3_copyFrom 109 = .ok (.iconst 0, 1) := by decide +kernel
theorem dX3_copyFrom_110 : decode cX3_copyFrom 110 = .ok (.aload_n 0, 1) := by decide +kernel
theorem dX3_copyFrom_111 : decode cX3_copyFrom 111 = .ok (.getfield 33, 3) := by decide +kernel
theorem dX3_copyFrom_114 : decode cX3_copyFrom 114 = .ok (.iconst 0, 1) := by decide +kernel
theorem dX3_copyFrom_115 : decode cX3_copyFrom 115 = .ok (.bipush 30, 2) := by decide +kernel
theorem dX3_copyFrom_117 : decode cX3_copyFrom 117 = .ok (.invokestatic 83, 3) := by decide +kernel
theorem dX3_copyFrom_120 : decode cX3_copyFrom 120 = .ok (.aload_n 1, 1) := by decide +kernel
theorem dX3_copyFrom_121 : decode cX3_copyFrom 121 = .ok (.getfield 36, 3) := by decide +kernel
theorem dX3_copyFrom_124 : decode cX3_copyFrom 124 = .ok (.iconst 0, 1) := by decide +kernel
theorem dX3_copyFrom_125 : decode cX3_copyFrom 125 = .ok (.aload_n 0, 1) := by decide +kernel
theorem dX3_copyFrom_126 : decode cX3_copyFrom 126 = .ok (.getfield 36, 3) := by decide +kernel
theorem dX3_copyFrom_129 : decode cX3_copyFrom 129 = .ok (.iconst 0, 1) := by decide +kernel
theorem dX3_copyFrom_130 : decode cX3_copyFrom 130 = .ok (.bipush 40, 2) := by decide +kernel
theorem dX3_copyFrom_132 : decode cX3_copyFrom 132 = .ok (.invokestatic 83, 3) := by decide +kernel
theorem dX3_copyFrom_135 : decode cX3_copyFrom 135 = .ok (.aload_n 1, 1) := by decide +kernel
theorem dX3_copyFrom_136 : decode cX3_copyFrom 136 = .ok (.getfield 39, 3) := by decide +kernel
theorem dX3_copyFrom_139 : decode cX3_copyFrom 139 = .ok (.iconst 0, 1) := by decide +kernel
theorem dX3_copyFrom_140 : decode cX3_copyFrom 140 = .ok (.aload_n 0, 1) := by decide +kernel
theorem dX3_copyFrom_141 : decode cX3_copyFrom 141 = .ok (.getfield 39, 3) := by decide +kernel
theorem dX3_copyFrom_144 : decode cX3_copyFrom 144 = .ok (.iconst 0, 1) := by decide +kernel
theorem dX3_copyFrom_145 : decode cX3_copyFrom 145 = .ok (.bipush 40, 2) := by decide +kernel
theorem dX3_copyFrom_147 : decode cX3_copyFrom 147 = .ok (.invokestatic 83, 3) := by decide +kernel
theorem dX3_copyFrom_150 : decode cX3_copyFrom 150 = .ok (.aload_n 1, 1) := by decide +kernel
theorem dX3_copyFrom_151 : decode cX3_copyFrom 151 = .ok (.getfield 42, 3) := by decide +kernel
theorem dX3_copyFrom_154 : decode cX3_copyFrom 154 = .ok (.iconst 0, 1) := by decide +kernel
theorem dX3_copyFrom_155 : decode cX3_copyFrom 155 = .ok (.aload_n 0, 1) := by decide +kernel
theorem dX3_copyFrom_156 : decode cX3_copyFrom 156 = .ok (.getfield 42, 3) := by decide +kernel
theorem dX3_copyFrom_159 : decode cX3_copyFrom 159 = .ok (.iconst 0, 1) := by decide +kernel
theorem dX3_copyFrom_160 : decode cX3_copyFrom 160 = .ok (.bipush 40, 2) := by decide +kernel
theorem dX3_copyFrom_162 : decode cX3_copyFrom 162 = .ok (.invokestatic 83, 3) := by decide +kernel
theorem dX3_copyFrom_165 : decode cX3_copyFrom 165 = .ok (.aload_n 0, 1) := by decide +kernel
theorem dX3_copyFrom_166 : decode cX3_copyFrom 166 = .ok (.aload_n 1, 1) := by decide +kernel
theorem dX3_copyFrom_167 : decode cX3_copyFrom 167 = .ok (.getfield 64, 3) := by decide +kernel
theorem dX3_copyFrom_170 : decode cX3_copyFrom 170 = .ok (.putfield 64, 3) := by decide +kernel
theorem dX3_copyFrom_173 : decode cX3_copyFrom 173 = .ok (.aload_n 0, 1) := by decide +kernel
theorem dX3_copyFrom_174 : decode cX3_copyFrom 174 = .ok (.aload_n 1, 1) := by decide +kernel
theorem dX3_copyFrom_175 : decode cX3_copyFrom 175 = .ok (.getfield 68, 3) := by decide +kernel
theorem dX3_copyFrom_178 : decode cX3_copyFrom 178 = .ok (.putfield 68, 3) := by decide +kernel
theorem dX3_copyFrom_181 : decode cX3_copyFrom 181 = .ok (.aload_n 0, 1) := by decide +kernel
theorem dX3_copyFrom_182 : decode cX3_copyFrom 182 = .ok (.aload_n 1, 1) := by decide +kernel
theorem dX3_copyFrom_183 : decode cX3_copyFrom 183 = .ok (.getfield 71, 3) := by decide +kernel
theorem dX3_copyFrom_186 : decode cX3_copyFrom 186 = .ok (.putfield 71, 3) := by decide +kernel
theorem dX3_copyFrom_189 : decode cX3_copyFrom 189 = .ok (.aload_n 0, 1) := by decide +kernel
theorem dX3_copyFrom_190 : decode cX3_copyFrom 190 = .ok (.aload_n 1, 1) := by decide +kernel
theorem dX3_copyFrom_191 : decode cX3_copyFrom 191 = .ok (.getfield 74, 3) := by decide +kernel
theorem dX3_copyFrom_194 : decode cX3_copyFrom 194 = .ok (.putfield 74, 3) := by decide +kernel
theorem dX3_copyFrom_197 : decode cX3_copyFrom 197 = .ok (.aload_n 0, 1) := by decide +kernel
theorem dX3_copyFrom_198 : decode cX3_copyFrom 198 = .ok (.aload_n 1, 1) := by decide +kernel
theorem dX3_copyFrom_199 : decode cX3_copyFrom 199 = .ok (.getfield 77, 3) := by decide +kernel
theorem dX3_copyFrom_202 : decode cX3_copyFrom 202 = .ok (.putfield 77, 3) := by decide +kernel
theorem dX3_copyFrom_205 : decode cX3_copyFrom 205 = .ok (.aload_n 0, 1) := by decide +kernel
theorem dX3_copyFrom_206 : decode cX3_copyFrom 206 = .ok (.aload_n 1, 1) := by decide +kernel
theorem dX3_copyFrom_207 : decode cX3_copyFrom 207 = .ok (.getfield 80, 3) := by decide +kernel
theorem dX3_copyFrom_210 : decode cX3_copyFrom 210 = .ok (.putfield 80, 3) := by decide +kernel
theorem dX3_copyFrom_213 : decode cX3_copyFrom 213 = .ok (.return_, 1) := by decide +kernel
theorem dX3_begin_0 : decode cX3_begin 0 = .ok (.aload_n 0, 1) := by decide +kernel
theorem dX3_begin_1 : decode cX3_begin 1 = .ok (.invokevirtual 49, 3) := by decide +kernel
theorem dX3_begin_4 : decode cX3_begin 4 = .ok (.iconst 0, 1) := by decide +kernel
theorem dX3_begin_5 : decode cX3_begin 5 = .ok (.istore_n 1, 1) := by decide +kernel
theorem dX3_begin_6 : decode cX3_begin 6 = .ok (.iload_n 1, 1) := by decide +kernel
theorem dX3_begin_7 : decode cX3_begin 7 = .ok (.aload_n 0, 1) := by decide +kernel
theorem dX3_begin_8 : decode cX3_begin 8 = .ok (.getfield 45, 3) := by decide +kernel
theorem dX3_begin_11 : decode cX3_begin 11 = .ok (.getfield 89, 3) := by decide +kernel
theorem dX3_begin_14 : decode cX3_begin 14 = .ok (.if_icmp .ge 37, 3) := by decide +kernel
theorem dX3_begin_17 : decode cX3_begin 17 = .ok (.aload_n 0, 1) := by decide +kernel
theorem dX3_begin_18 : decode cX3_begin 18 = .ok (.getfield 45, 3) := by decide +kernel
theorem dX3_begin_21 : decode cX3_begin 21 = .ok (.getfield 94, 3) := by decide +kernel
theorem dX3_begin_24 : decode cX3_begin 24 = .ok (.iload_n 1, 1) := by decide +kernel
theorem dX3_begin_25 : decode cX3_begin 25 = .ok (.iaload, 1) := by decide +kernel
theorem dX3_begin_26 : decode cX3_begin 26 = .ok (.bipush 8, 2) := by decide +kernel
theorem dX3_begin_28 : decode cX3_begin 28 = .ok (.if_icmp .ne 17, 3) := by decide +kernel
theorem dX3_begin_31 : decode cX3_begin 31 = .ok (.aload_n 0, 1) := by decide +kernel
theorem dX3_begin_32 : decode cX3_begin 32 = .ok (.aload_n 0, 1) := by decide +kernel
theorem dX3_begin_33 : decode cX3_begin 33 = .ok (.getfield 45, 3) := by decide +kernel
theorem dX3_begin_36 : decode cX3_begin 36 = .ok (.getfield 97, 3) := by decide +kernel
theorem dX3_begin_39 : decode cX3_begin 39 = .ok (.iload_n 1, 1) := by decide +kernel
theorem dX3_begin_40 : decode cX3_begin 40 = .ok (.iaload, 1) := by decide +kernel
theorem dX3_begin_41 : decode cX3_begin 41 = .ok (.iconst 0, 1) := by decide +kernel
theorem dX3_begin_42 : decode cX3_begin 42 = .ok (.invokevirtual 100, 3) := by decide +kernel
theorem dX3_begin_45 : decode cX3_begin 45 = .ok (.iinc 1 1, 3) := by decide +kernel
theorem dX3_begin_48 : decode cX3_begin 48 = .ok (.goto (-42), 3) := by decide +kernel
theorem dX3_begin_51 : decode cX3_begin 51 = .ok (.return_, 1) := by decide +kernel
theorem dX3_put_0 : decode cX3_put 0 = .ok (.aload_n 0, 1) := by decide +kernel
theorem dX3_put_1 : decode cX3_put 1 = .ok (.invokevirtual 61, 3) := by decide +kernel
theorem dX3_put_4 : decode cX3_put 4 = .ok (.aload_n 0, 1) := by decide +kernel
theorem dX3_put_5 : decode cX3_put 5 = .ok (.iload_n 1, 1) := by decide +kernel
theorem dX3_put_6 : decode cX3_put 6 = .ok (.iload_n 2, 1) := by decide +kernel
theorem dX3_put_7 : decode cX3_put 7 = .ok (.invokevirtual 100, 3) := by decide +kernel
theorem dX3_put_10 : decode cX3_put 10 = .ok (.return_, 1) := by decide +kernel
theorem dX3_comeToRest_0 : decode cX3_comeToRest 0 = .ok (.aload_n 0, 1) := by decide +kernel
theorem dX3_comeToRest_1 : decode cX3_comeToRest 1 = .ok (.ldc 104, 2) := by decide +kernel
theorem dX3_comeToRest_3 : decode cX3_comeToRest 3 = .ok (.invokevirtual 105, 3) := by decide +kernel
theorem dX3_comeToRest_6 : decode cX3_comeToRest 6 = .ok (.istore_n 1, 1) := by decide +kernel
theorem dX3_comeToRest_7 : decode cX3_comeToRest 7 = .ok (.aload_n 0, 1) := by decide +kernel
theorem dX3_comeToRest_8 : decode cX3_comeToRest 8 = .ok (.invokevirtual 109, 3) := by decide +kernel
theorem dX3_comeToRest_11 : decode cX3_comeToRest 11 = .ok (.aload_n 0, 1) := by decide +kernel
theorem dX3_comeToRest_12 : decode cX3_comeToRest 12 = .ok (.invokevirtual 61, 3) := by decide +kernel
theorem dX3_comeToRest_15 : decode cX3_comeToRest 15 = .ok (.iload_n 1, 1) := by decide +kernel
theorem dX3_comeToRest_16 : decode cX3_comeToRest 16 = .ok (.ireturn, 1) := by decide +kernel
theorem dX3_letCome_0 : decode cX3_letCome 0 = .ok (.aload_n 0, 1) := by decide +kernel
theorem dX3_letCome_1 : decode cX3_letCome 1 = .ok (.getfield 80, 3) := by decide +kernel
theorem dX3_letCome_4 : decode cX3_letCome 4 = .ok (.istore_n 2, 1) := by decide +kernel
theorem dX3_letCome_5 : decode cX3_letCome 5 = .ok (.aload_n 0, 1) := by decide +kernel
theorem dX3_letCome_6 : decode cX3_letCome 6 = .ok (.iload_n 1, 1) := by decide +kernel
theorem dX3_letCome_7 : decode cX3_letCome 7 = .ok (.invokevirtual 112, 3) := by decide +kernel
theorem dX3_letCome_10 : decode cX3_letCome 10 = .ok (.istore_n 3, 1) := by decide +kernel
theorem dX3_letCome_11 : decode cX3_letCome 11 = .ok (.iconst 0, 1) := by decide +kernel
theorem dX3_letCome_12 : decode cX3_letCome 12 = .ok (.istore 4, 2) := by decide +kernel
theorem dX3_letCome_14 : decode cX3_letCome 14 = .ok (.iload 4, 2) := by decide +kernel
theorem dX3_letCome_16 : decode cX3_letCome 16 = .ok (.sipush 300, 3) := by decide +kernel
theorem dX3_letCome_19 : decode cX3_letCome 19 = .ok (.if_icmp .ge 60, 3) := by decide +kernel
theorem dX3_letCome_22 : decode cX3_letCome 22 = .ok (.iload_n 3, 1) := by decide +kernel
theorem dX3_letCome_23 : decode cX3_letCome 23 = .ok (.iconst (-1), 1) := by decide +kernel
theorem dX3_letCome_24 : decode cX3_letCome 24 = .ok (.if_icmp .eq 55, 3) := by decide +kernel
theorem dX3_letCome_27 : decode cX3_letCome 27 = .ok (.aload_n 0, 1) := by decide +kernel
theorem dX3_letCome_28 : decode cX3_letCome 28 = .ok (.getfield 24, 3) := by decide +kernel
theorem dX3_letCome_31 : decode cX3_letCome 31 = .ok (.iload_n 3, 1) := by decide +kernel
theorem dX3_letCome_32 : decode cX3_letCome 32 = .ok (.iaload, 1) := by decide +kernel
theorem dX3_letCome_33 : decode cX3_letCome 33 = .ok (.istore 5, 2) := by decide +kernel
theorem dX3_letCome_35 : decode cX3_letCome 35 = .ok (.aload_n 0, 1) := by decide +kernel
theorem dX3_letCome_36 : decode cX3_letCome 36 = .ok (.aload_n 0, 1) := by decide +kernel
theorem dX3_letCome_37 : decode cX3_letCome 37 = .ok (.getfield 27, 3) := by decide +kernel
theorem dX3_letCome_40 : decode cX3_letCome 40 = .ok (.iload_n 3, 1) := by decide +kernel
theorem dX3_letCome_41 : decode cX3_letCome 41 = .ok (.iaload, 1) := by decide +kernel
theorem dX3_letCome_42 : decode cX3_letCome 42 = .ok (.putfield 68, 3) := by decide +kernel
theorem dX3_letCome_45 : decode cX3_letCome 45 = .ok (.aload_n 0, 1) := by decide +kernel
theorem dX3_letCome_46 : decode cX3_letCome 46 = .ok (.getfield 24, 3) := by decide +kernel
theorem dX3_letCome_49 : decode cX3_letCome 49 = .ok (.iload_n 3, 1) := by decide +kernel
theorem dX3_letCome_50 : decode cX3_letCome 50 = .ok (.iconst (-1), 1) := by decide +kernel
theorem dX3_letCome_51 : decode cX3_letCome 51 = .ok (.iastore, 1) := by decide +kernel
theorem dX3_letCome_52 : decode cX3_letCome 52 = .ok (.aload_n 0, 1) := by decide +kernel
theorem dX3_letCome_53 : decode cX3_letCome 53 = .ok (.aload_n 0, 1) := by decide +kernel
theorem dX3_letCome_54 : decode cX3_letCome 54 = .ok (.getfield 45, 3) := by decide +kernel
theorem dX3_letCome_57 : decode cX3_letCome 57 = .ok (.getfield 97, 3) := by decide +kernel
theorem dX3_letCome_60 : decode cX3_letCome 60 = .ok (.iload_n 3, 1) := by decide +kernel
theorem dX3_letCome_61 : decode cX3_letCome 61 = .ok (.iaload, 1) := by decide +kernel
theorem dX3_letCome_62 : decode cX3_letCome 62 = .ok (.iload 5, 2) := by decide +kernel
theorem dX3_letCome_64 : decode cX3_letCome 64 = .ok (.invokevirtual 100, 3) := by decide +kernel
theorem dX3_letCome_67 : decode cX3_letCome 67 = .ok (.aload_n 0, 1) := by decide +kernel
theorem dX3_letCome_68 : decode cX3_letCome 68 = .ok (.iload_n 1, 1) := by decide +kernel
theorem dX3_letCome_69 : decode cX3_letCome 69 = .ok (.invokevirtual 112, 3) := by decide +kernel
theorem dX3_letCome_72 : decode cX3_letCome 72 = .ok (.istore_n 3, 1) := by decide +kernel
theorem dX3_letCome_73 : decode cX3_letCome 73 = .ok (.iinc 4 1, 3) := by decide +kernel
theorem dX3_letCome_76 : decode cX3_letCome 76 = .ok (.goto (-62), 3) := by decide +kernel
theorem dX3_letCome_79 : decode cX3_letCome 79 = .ok (.iload_n 3, 1) := by decide +kernel
theorem dX3_letCome_80 : decode cX3_letCome 80 = .ok (.iconst (-1), 1) := by decide +kernel
theorem dX3_letCome_81 : decode cX3_letCome 81 = .ok (.if_icmp .eq 17, 3) := by decide +kernel
theorem dX3_letCome_84 : decode cX3_letCome 84 = .ok (.aload_n 0, 1) := by decide +kernel
theorem dX3_letCome_85 : decode cX3_letCome 85 = .ok (.dup, 1) := by decide +kernel
theorem dX3_letCome_86 : decode cX3_letCome 86 = .ok (.getfield 77, 3) := by decide +kernel
theorem dX3_letCome_89 : decode cX3_letCome 89 = .ok (.iconst 1, 1) := by decide +kernel
theorem dX3_letCome_90 : decode cX3_letCome 90 = .ok (.iadd, 1) := by decide +kernel
theorem dX3_letCome_91 : decode cX3_letCome 91 = .ok (.putfield 77, 3) := by decide +kernel
theorem dX3_letCome_94 : decode cX3_letCome 94 = .ok (.aload_n 0, 1) := by decide +kernel
theorem dX3_letCome_95 : decode cX3_letCome 95 = .ok (.invokevirtual 58, 3) := by decide +kernel
theorem dX3_letCome_98 : decode cX3_letCome 98 = .ok (.aload_n 0, 1) := by decide +kernel
theorem dX3_letCome_99 : decode cX3_letCome 99 = .ok (.getfield 80, 3) := by decide +kernel
theorem dX3_letCome_102 : decode cX3_letCome 102 = .ok (.iload_n 2, 1) := by decide +kernel
theorem dX3_letCome_103 : decode cX3_letCome 103 = .ok (.isub, 1) := by decide +kernel
theorem dX3_letCome_104 : decode cX3_letCome 104 = .ok (.ireturn, 1) := by decide +kernel
theorem dX3_nextLine_0 : decode cX3_nextLine 0 = .ok (.iconst (-1), 1) := by decide +kernel
theorem dX3_nextLine_1 : decode cX3_nextLine 1 = .ok (.istore_n 2, 1) := by decide +kernel
theorem dX3_nextLine_2 : decode cX3_nextLine 2 = .ok (.iconst 0, 1) := by decide +kernel
theorem dX3_nextLine_3 : decode cX3_nextLine 3 = .ok (.istore_n 3, 1) := by decide +kernel
theorem dX3_nextLine_4 : decode cX3_nextLine 4 = .ok (.iload_n 3, 1) := by decide +kernel
theorem dX3_nextLine_5 : decode cX3_nextLine 5 = .ok (.aload_n 0, 1) := by decide +kernel
theorem dX3_nextLine_6 : decode cX3_nextLine 6 = .ok (.getfield 45, 3) := by decide +kernel
theorem dX3_nextLine_9 : decode cX3_nextLine 9 = .ok (.getfield 89, 3) := by decide +kernel
theorem dX3_nextLine_12 : decode cX3_nextLine 12 = .ok (.if_icmp .ge 45, 3) := by decide +kernel
theorem dX3_nextLine_15 : decode cX3_nextLine 15 = .ok (.aload_n 0, 1) := by decide +kernel
theorem dX3_nextLine_16 : decode cX3_nextLine 16 = .ok (.getfield 24, 3) := by decide +kernel
theorem dX3_nextLine_19 : decode cX3_nextLine 19 = .ok (.iload_n 3, 1) := by decide +kernel
theorem dX3_nextLine_20 : decode cX3_nextLine 20 = .ok (.iaload, 1) := by decide +kernel
theorem dX3_nextLine_21 : decode cX3_nextLine 21 = .ok (.iconst (-1), 1) := by decide +kernel
theorem dX3_nextLine_22 : decode cX3_nextLine 22 = .ok (.if_icmp .eq 29, 3) := by decide +kernel
theorem dX3_nextLine_25 : decode cX3_nextLine 25 = .ok (.aload_n 0, 1) := by decide +kernel
theorem dX3_nextLine_26 : decode cX3_nextLine 26 = .ok (.getfield 27, 3) := by decide +kernel
theorem dX3_nextLine_29 : decode cX3_nextLine 29 = .ok (.iload_n 3, 1) := by decide +kernel
theorem dX3_nextLine_30 : decode cX3_nextLine 30 = .ok (.iaload, 1) := by decide +kernel
theorem dX3_nextLine_31 : decode cX3_nextLine 31 = .ok (.iload_n 1, 1) := by decide +kernel
theorem dX3_nextLine_32 : decode cX3_nextLine 32 = .ok (.if_icmp .gt 19, 3) := by decide +kernel
theorem dX3_nextLine_35 : decode cX3_nextLine 35 = .ok (.iload_n 2, 1) := by decide +kernel
theorem dX3_nextLine_36 : decode cX3_nextLine 36 = .ok (.iconst (-1), 1) := by decide +kernel
theorem dX3_nextLine_37 : decode cX3_nextLine 37 = .ok (.if_icmp .eq 12, 3) := by decide +kernel
theorem dX3_nextLine_40 : decode cX3_nextLine 40 = .ok (.aload_n 0, 1) := by decide +kernel
theorem dX3_nextLine_41 : decode cX3_nextLine 41 = .ok (.iload_n 3, 1) := by decide +kernel
theorem dX3_nextLine_42 : decode cX3_nextLine 42 = .ok (.iload_n 2, 1) := by decide +kernel
theorem dX3_nextLine_43 : decode cX3_nextLine 43 = .ok (.invokevirtual 115, 3) := by decide +kernel
theorem dX3_nextLine_46 : decode cX3_nextLine 46 = .ok (.ifCond .eq 5, 3) := by decide +kernel
theorem dX3_nextLine_49 : decode cX3_nextLine 49 = .ok (.iload_n 3, 1) := by decide +kernel
theorem dX3_nextLine_50 : decode cX3_nextLine 50 = .ok (.istore_n 2, 1) := by decide +kernel
theorem dX3_nextLine_51 : decode cX3_nextLine 51 = .ok (.iinc 3 1, 3) := by decide +kernel
theorem dX3_nextLine_54 : decode cX3_nextLine 54 = .ok (.goto (-50), 3) := by decide +kernel
theorem dX3_nextLine_57 : decode cX3_nextLine 57 = .ok (.iload_n 2, 1) := by decide +kernel
theorem dX3_nextLine_58 : decode cX3_nextLine 58 = .ok (.ireturn, 1) := by decide +kernel
theorem dX3_comesAheadOf_0 : decode cX3_comesAheadOf 0 = .ok (.aload_n 0, 1) := by decide +kernel
theorem dX3_comesAheadOf_1 : decode cX3_comesAheadOf 1 = .ok (.getfield 27, 3) := by decide +kernel
theorem dX3_comesAheadOf_4 : decode cX3_comesAheadOf 4 = .ok (.iload_n 1, 1) := by decide +kernel
theorem dX3_comesAheadOf_5 : decode cX3_comesAheadOf 5 = .ok (.iaload, 1) := by decide +kernel
theorem dX3_comesAheadOf_6 : decode cX3_comesAheadOf 6 = .ok (.aload_n 0, 1) := by decide +kernel
theorem dX3_comesAheadOf_7 : decode cX3_comesAheadOf 7 = .ok (.getfield 27, 3) := by decide +kernel
theorem dX3_comesAheadOf_10 : decode cX3_comesAheadOf 10 = .ok (.iload_n 2, 1) := by decide +kernel
theorem dX3_comesAheadOf_11 : decode cX3_comesAheadOf 11 = .ok (.iaload, 1) := by decide +kernel
theorem dX3_comesAheadOf_12 : decode cX3_comesAheadOf 12 = .ok (.if_icmp .eq 24, 3) := by decide +kernel
theorem dX3_comesAheadOf_15 : decode cX3_comesAheadOf 15 = .ok (.aload_n 0, 1) := by decide +kernel
theorem dX3_comesAheadOf_16 : decode cX3_comesAheadOf 16 = .ok (.getfield 27, 3) := by decide +kernel
theorem dX3_comesAheadOf_19 : decode cX3_comesAheadOf 19 = .ok (.iload_n 1, 1) := by decide +kernel
theorem dX3_comesAheadOf_20 : decode cX3_comesAheadOf 20 = .ok (.iaload, 1) := by decide +kernel
theorem dX3_comesAheadOf_21 : decode cX3_comesAheadOf 21 = .ok (.aload_n 0, 1) := by decide +kernel
theorem dX3_comesAheadOf_22 : decode cX3_comesAheadOf 22 = .ok (.getfield 27, 3) := by decide +kernel
theorem dX3_comesAheadOf_25 : decode cX3_comesAheadOf 25 = .ok (.iload_n 2, 1) := by decide +kernel
theorem dX3_comesAheadOf_26 : decode cX3_comesAheadOf 26 = .ok (.iaload, 1) := by decide +kernel
theorem dX3_comesAheadOf_27 : decode cX3_comesAheadOf 27 = .ok (.if_icmp .ge 7, 3) := by decide +kernel
theorem dX3_comesAheadOf_30 : decode cX3_comesAheadOf 30 = .ok (.iconst 1, 1) := by decide +kernel
theorem dX3_comesAheadOf_31 : decode cX3_comesAheadOf 31 = .ok (.goto 4, 3) := by decide +kernel
theorem dX3_comesAheadOf_34 : decode cX3_comesAheadOf 34 = .ok (.iconst 0, 1) := by decide +kernel
theorem dX3_comesAheadOf_35 : decode cX3_comesAheadOf 35 = .ok (.ireturn, 1) := by decide +kernel
theorem dX3_comesAheadOf_36 : decode cX3_comesAheadOf 36 = .ok (.aload_n 0, 1) := by decide +kernel
theorem dX3_comesAheadOf_37 : decode cX3_comesAheadOf 37 = .ok (.getfield 30, 3) := by decide +kernel
theorem dX3_comesAheadOf_40 : decode cX3_comesAheadOf 40 = .ok (.iload_n 1, 1) := by decide +kernel
theorem dX3_comesAheadOf_41 : decode cX3_comesAheadOf 41 = .ok (.iaload, 1) := by decide +kernel
theorem dX3_comesAheadOf_42 : decode cX3_comesAheadOf 42 = .ok (.aload_n 0, 1) := by decide +kernel
theorem dX3_comesAheadOf_43 : decode cX3_comesAheadOf 43 = .ok (.getfield 30, 3) := by decide +kernel
theorem dX3_comesAheadOf_46 : decode cX3_comesAheadOf 46 = .ok (.iload_n 2, 1) := by decide +kernel
theorem dX3_comesAheadOf_47 : decode cX3_comesAheadOf 47 = .ok (.iaload, 1) := by decide +kernel
theorem dX3_comesAheadOf_48 : decode cX3_comesAheadOf 48 = .ok (.if_icmp .ge 7, 3) := by decide +kernel
theorem dX3_comesAheadOf_51 : decode cX3_comesAheadOf 51 = .ok (.iconst 1, 1) := by decide +kernel
theorem dX3_comesAheadOf_52 : decode cX3_comesAheadOf 52 = .ok (.goto 4, 3) := by decide +kernel
theorem dX3_comesAheadOf_55 : decode cX3_comesAheadOf 55 = .ok (.iconst 0, 1) := by decide +kernel
theorem dX3_comesAheadOf_56 : decode cX3_comesAheadOf 56 = .ok (.ireturn, 1) := by decide +kernel
theorem dX3_nextTime_0 : decode cX3_nextTime 0 = .ok (.aload_n 0, 1) := by decide +kernel
theorem dX3_nextTime_1 : decode cX3_nextTime 1 = .ok (.ldc 104, 2) := by decide +kernel
theorem dX3_nextTime_3 : decode cX3_nextTime 3 = .ok (.invokevirtual 112, 3) := by decide +kernel
theorem dX3_nextTime_6 : decode cX3_nextTime 6 = .ok (.istore_n 1, 1) := by decide +kernel
theorem dX3_nextTime_7 : decode cX3_nextTime 7 = .ok (.iload_n 1, 1) := by decide +kernel
theorem dX3_nextTime_8 : decode cX3_nextTime 8 = .ok (.iconst (-1), 1) := by decide +kernel
theorem dX3_nextTime_9 : decode cX3_nextTime 9 = .ok (.if_icmp .ne 7, 3) := by decide +kernel
theorem dX3_nextTime_12 : decode cX3_nextTime 12 = .ok (.iconst (-1), 1) := by decide +kernel
theorem dX3_nextTime_13 : decode cX3_nextTime 13 = .ok (.goto 9, 3) := by decide +kernel
theorem dX3_nextTime_16 : decode cX3_nextTime 16 = .ok (.aload_n 0, 1) := by decide +kernel
theorem dX3_nextTime_17 : decode cX3_nextTime 17 = .ok (.getfield 27, 3) := by decide +kernel
theorem dX3_nextTime_20 : decode cX3_nextTime 20 = .ok (.iload_n 1, 1) := by decide +kernel
theorem dX3_nextTime_21 : decode cX3_nextTime 21 = .ok (.iaload, 1) := by decide +kernel
theorem dX3_nextTime_22 : decode cX3_nextTime 22 = .ok (.ireturn, 1) := by decide +kernel
theorem dX3_linesPending_0 : decode cX3_linesPending 0 = .ok (.iconst 0, 1) := by decide +kernel
theorem dX3_linesPending_1 : decode cX3_linesPending 1 = .ok (.istore_n 1, 1) := by decide +kernel
theorem dX3_linesPending_2 : decode cX3_linesPending 2 = .ok (.iconst 0, 1) := by decide +kernel
theorem dX3_linesPending_3 : decode cX3_linesPending 3 = .ok (.istore_n 2, 1) := by decide +kernel
theorem dX3_linesPending_4 : decode cX3_linesPending 4 = .ok (.iload_n 2, 1) := by decide +kernel
theorem dX3_linesPending_5 : decode cX3_linesPending 5 = .ok (.aload_n 0, 1) := by decide +kernel
theorem dX3_linesPending_6 : decode cX3_linesPending 6 = .ok (.getfield 45, 3) := by decide +kernel
theorem dX3_linesPending_9 : decode cX3_linesPending 9 = .ok (.getfield 89, 3) := by decide +kernel
theorem dX3_linesPending_12 : decode cX3_linesPending 12 = .ok (.if_icmp .ge 22, 3) := by decide +kernel
theorem dX3_linesPending_15 : decode cX3_linesPending 15 = .ok (.aload_n 0, 1) := by decide +kernel
theorem dX3_linesPending_16 : decode cX3_linesPending 16 = .ok (.getfield 24, 3) := by decide +kernel
theorem dX3_linesPending_19 : decode cX3_linesPending 19 = .ok (.iload_n 2, 1) := by decide +kernel
theorem dX3_linesPending_20 : decode cX3_linesPending 20 = .ok (.iaload, 1) := by decide +kernel
theorem dX3_linesPending_21 : decode cX3_linesPending 21 = .ok (.iconst (-1), 1) := by decide +kernel
theorem dX3_linesPending_22 : decode cX3_linesPending 22 = .ok (.if_icmp .eq 6, 3) := by decide +kernel
theorem dX3_linesPending_25 : decode cX3_linesPending 25 = .ok (.iinc 1 1, 3) := by decide +kernel
theorem dX3_linesPending_28 : decode cX3_linesPending 28 = .ok (.iinc 2 1, 3) := by decide +kernel
theorem dX3_linesPending_31 : decode cX3_linesPending 31 = .ok (.goto (-27), 3) := by decide +kernel
theorem dX3_linesPending_34 : decode cX3_linesPending 34 = .ok (.iload_n 1, 1) := by decide +kernel
theorem dX3_linesPending_35 : decode cX3_linesPending 35 = .ok (.ireturn, 1) := by decide +kernel
theorem dX3_giveUpAll_0 : decode cX3_giveUpAll 0 = .ok (.aload_n 0, 1) := by decide +kernel
theorem dX3_giveUpAll_1 : decode cX3_giveUpAll 1 = .ok (.getfield 24, 3) := by decide +kernel
theorem dX3_giveUpAll_4 : decode cX3_giveUpAll 4 = .ok (.iconst (-1), 1) := by decide +kernel
theorem dX3_giveUpAll_5 : decode cX3_giveUpAll 5 = .ok (.invokestatic 52, 3) := by decide +kernel
theorem dX3_giveUpAll_8 : decode cX3_giveUpAll 8 = .ok (.return_, 1) := by decide +kernel
theorem dX3_beginCounting_0 : decode cX3_beginCounting 0 = .ok (.aload_n 0, 1) := by decide +kernel
theorem dX3_beginCounting_1 : decode cX3_beginCounting 1 = .ok (.getfield 18, 3) := by decide +kernel
theorem dX3_beginCounting_4 : decode cX3_beginCounting 4 = .ok (.iconst 0, 1) := by decide +kernel
theorem dX3_beginCounting_5 : decode cX3_beginCounting 5 = .ok (.invokestatic 52, 3) := by decide +kernel
theorem dX3_beginCounting_8 : decode cX3_beginCounting 8 = .ok (.aload_n 0, 1) := by decide +kernel
theorem dX3_beginCounting_9 : decode cX3_beginCounting 9 = .ok (.getfield 9, 3) := by decide +kernel
theorem dX3_beginCounting_12 : decode cX3_beginCounting 12 = .ok (.iconst 0, 1) := by decide +kernel
theorem dX3_beginCounting_13 : decode cX3_beginCounting 13 = .ok (.aload_n 0, 1) := by decide +kernel
theorem dX3_beginCounting_14 : decode cX3_beginCounting 14 = .ok (.getfield 21, 3) := by decide +kernel
theorem dX3_beginCounting_17 : decode cX3_beginCounting 17 = .ok (.iconst 0, 1) := by decide +kernel
theorem dX3_beginCounting_18 : decode cX3_beginCounting 18 = .ok (.bipush 24, 2) := by decide +kernel
theorem dX3_beginCounting_20 : decode cX3_beginCounting 20 = .ok (.invokestatic 83, 3) := by decide +kernel
theorem dX3_beginCounting_23 : decode cX3_beginCounting 23 = .ok (.return_, 1) := by decide +kernel
theorem dX3_change_0 : decode cX3_change 0 = .ok (.iload_n 1, 1) := by decide +kernel
theorem dX3_change_1 : decode cX3_change 1 = .ok (.invokestatic 119, 3) := by decide +kernel
theorem dX3_change_4 : decode cX3_change 4 = .ok (.ifCond .eq 13, 3) := by decide +kernel
theorem dX3_change_7 : decode cX3_change 7 = .ok (.aload_n 0, 1) := by decide +kernel
theorem dX3_change_8 : decode cX3_change 8 = .ok (.getfield 9, 3) := by decide +kernel
theorem dX3_change_11 : decode cX3_change 11 = .ok (.iload_n 1, 1) := by decide +kernel
theorem dX3_change_12 : decode cX3_change 12 = .ok (.iaload, 1) := by decide +kernel
theorem dX3_change_13 : decode cX3_change 13 = .ok (.iload_n 2, 1) := by decide +kernel
theorem dX3_change_14 : decode cX3_change 14 = .ok (.if_icmp .ne 4, 3) := by decide +kernel
theorem dX3_change_17 : decode cX3_change 17 = .ok (.return_, 1) := by decide +kernel
theorem dX3_change_18 : decode cX3_change 18 = .ok (.aload_n 0, 1) := by decide +kernel
theorem dX3_change_19 : decode cX3_change 19 = .ok (.getfield 9, 3) := by decide +kernel
theorem dX3_change_22 : decode cX3_change 22 = .ok (.iload_n 1, 1) := by decide +kernel
theorem dX3_change_23 : decode cX3_change 23 = .ok (.iaload, 1) := by decide +kernel
theorem dX3_change_24 : decode cX3_change 24 = .ok (.istore_n 3, 1) := by decide +kernel
theorem dX3_change_25 : decode cX3_change 25 = .ok (.aload_n 0, 1) := by decide +kernel
theorem dX3_change_26 : decode cX3_change 26 = .ok (.getfield 9, 3) := by decide +kernel
theorem dX3_change_29 : decode cX3_change 29 = .ok (.iload_n 1, 1) := by decide +kernel
theorem dX3_change_30 : decode cX3_change 30 = .ok (.iload_n 2, 1) := by decide +kernel
theorem dX3_change_31 : decode cX3_change 31 = .ok (.iastore, 1) := by decide +kernel
theorem dX3_change_32 : decode cX3_change 32 = .ok (.aload_n 0, 1) := by decide +kernel
theorem dX3_change_33 : decode cX3_change 33 = .ok (.getfield 15, 3) := by decide +kernel
theorem dX3_change_36 : decode cX3_change 36 = .ok (.iload_n 1, 1) := by decide +kernel
theorem dX3_change_37 : decode cX3_change 37 = .ok (.aload_n 0, 1) := by decide +kernel
theorem dX3_change_38 : decode cX3_change 38 = .ok (.getfield 68, 3) := by decide +kernel
theorem dX3_change_41 : decode cX3_change 41 = .ok (.iastore, 1) := by decide +kernel
theorem dX3_change_42 : decode cX3_change 42 = .ok (.aload_n 0, 1) := by decide +kernel
theorem dX3_change_43 : decode cX3_change 43 = .ok (.getfield 18, 3) := by decide +kernel
theorem dX3_change_46 : decode cX3_change 46 = .ok (.iload_n 1, 1) := by decide +kernel
theorem dX3_change_47 : decode cX3_change 47 = .ok (.dup2, 1) := by decide +kernel
theorem dX3_change_48 : decode cX3_change 48 = .ok (.iaload, 1) := by decide +kernel
theorem dX3_change_49 : decode cX3_change 49 = .ok (.iconst 1, 1) := by decide +kernel
theorem dX3_change_50 : decode cX3_change 50 = .ok (.iadd, 1) := by decide +kernel
theorem dX3_change_51 : decode cX3_change 51 = .ok (.iastore, 1) := by decide +kernel
theorem dX3_change_52 : decode cX3_change 52 = .ok (.aload_n 0, 1) := by decide +kernel
theorem dX3_change_53 : decode cX3_change 53 = .ok (.dup, 1) := by decide +kernel
theorem dX3_change_54 : decode cX3_change 54 = .ok (.getfield 80, 3) := by decide +kernel
theorem dX3_change_57 : decode cX3_change 57 = .ok (.iconst 1, 1) := by decide +kernel
theorem dX3_change_58 : decode cX3_change 58 = .ok (.iadd, 1) := by decide +kernel
theorem dX3_change_59 : decode cX3_change 59 = .ok (.putfield 80, 3) := by decide +kernel
theorem dX3_change_62 : decode cX3_change 62 = .ok (.iconst 0, 1) := by decide +kernel
theorem dX3_change_63 : decode cX3_change 63 = .ok (.istore 4, 2) := by decide +kernel
theorem dX3_change_65 : decode cX3_change 65 = .ok (.iload 4, 2) := by decide +kernel
theorem dX3_change_67 : decode cX3_change 67 = .ok (.aload_n 0, 1) := by decide +kernel
theorem dX3_change_68 : decode cX3_change 68 = .ok (.getfield 45, 3) := by decide +kernel
theorem dX3_change_71 : decode cX3_change 71 = .ok (.getfield 89, 3) := by decide +kernel
theorem dX3_change_74 : decode cX3_change 74 = .ok (.if_icmp .ge 57, 3) := by decide +kernel
theorem dX3_change_77 : decode cX3_change 77 = .ok (.aload_n 0, 1) := by decide +kernel
theorem dX3_change_78 : decode cX3_change 78 = .ok (.getfield 45, 3) := by decide +kernel
theorem dX3_change_81 : decode cX3_change 81 = .ok (.iload_n 1, 1) := by decide +kernel
theorem dX3_change_82 : decode cX3_change 82 = .ok (.iload 4, 2) := by decide +kernel
theorem dX3_change_84 : decode cX3_change 84 = .ok (.invokevirtual 123, 3) := by decide +kernel
theorem dX3_change_87 : decode cX3_change 87 = .ok (.ifCond .ne 6, 3) := by decide +kernel
theorem dX3_change_90 : decode cX3_change 90 = .ok (.goto 35, 3) := by decide +kernel
theorem dX3_change_93 : decode cX3_change 93 = .ok (.aload_n 0, 1) := by decide +kernel
theorem dX3_change_94 : decode cX3_change 94 = .ok (.getfield 45, 3) := by decide +kernel
theorem dX3_change_97 : decode cX3_change 97 = .ok (.getfield 94, 3) := by decide +kernel
theorem dX3_change_100 : decode cX3_change 100 = .ok (.iload 4, 2) := by decide +kernel
theorem dX3_change_102 : decode cX3_change 102 = .ok (.iaload, 1) := by decide +kernel
theorem dX3_change_103 : decode cX3_change 103 = .ok (.bipush 9, 2) := by decide +kernel
theorem dX3_change_105 : decode cX3_change 105 = .ok (.if_icmp .ne 14, 3) := by decide +kernel
theorem dX3_change_108 : decode cX3_change 108 = .ok (.aload_n 0, 1) := by decide +kernel
theorem dX3_change_109 : decode cX3_change 109 = .ok (.iload 4, 2) := by decide +kernel
theorem dX3_change_111 : decode cX3_change 111 = .ok (.iload_n 1, 1) := by decide +kernel
theorem dX3_change_112 : decode cX3_change 112 = .ok (.iload_n 3, 1) := by decide +kernel
theorem dX3_change_113 : decode cX3_change 113 = .ok (.invokevirtual 126, 3) := by decide +kernel
theorem dX3_change_116 : decode cX3_change 116 = .ok (.goto 9, 3) := by decide +kernel
theorem dX3_change_119 : decode cX3_change 119 = .ok (.aload_n 0, 1) := by decide +kernel
theorem dX3_change_120 : decode cX3_change 120 = .ok (.iload 4, 2) := by decide +kernel
theorem dX3_change_122 : decode cX3_change 122 = .ok (.invokevirtual 130, 3) := by decide +kernel
theorem dX3_change_125 : decode cX3_change 125 = .ok (.iinc 4 1, 3) := by decide +kernel
theorem dX3_change_128 : decode cX3_change 128 = .ok (.goto (-63), 3) := by decide +kernel
theorem dX3_change_131 : decode cX3_change 131 = .ok (.return_, 1) := by decide +kernel
theorem dX3_askGate_0 : decode cX3_askGate 0 = .ok (.aload_n 0, 1) := by decide +kernel
theorem dX3_askGate_1 : decode cX3_askGate 1 = .ok (.getfield 45, 3) := by decide +kernel
theorem dX3_askGate_4 : decode cX3_askGate 4 = .ok (.getfield 94, 3) := by decide +kernel
theorem dX3_askGate_7 : decode cX3_askGate 7 = .ok (.iload_n 1, 1) := by decide +kernel
theorem dX3_askGate_8 : decode cX3_askGate 8 = .ok (.iaload, 1) := by decide +kernel
theorem dX3_askGate_9 : decode cX3_askGate 9 = .ok (.aload_n 0, 1) := by decide +kernel
theorem dX3_askGate_10 : decode cX3_askGate 10 = .ok (.aload_n 0, 1) := by decide +kernel
theorem dX3_askGate_11 : decode cX3_askGate 11 = .ok (.getfield 45, 3) := by decide +kernel
theorem dX3_askGate_14 : decode cX3_askGate 14 = .ok (.getfield 134, 3) := by decide +kernel
theorem dX3_askGate_17 : decode cX3_askGate 17 = .ok (.iload_n 1, 1) := by decide +kernel
theorem dX3_askGate_18 : decode cX3_askGate 18 = .ok (.iaload, 1) := by decide +kernel
theorem dX3_askGate_19 : decode cX3_askGate 19 = .ok (.invokevirtual 137, 3) := by decide +kernel
theorem dX3_askGate_22 : decode cX3_askGate 22 = .ok (.aload_n 0, 1) := by decide +kernel
theorem dX3_askGate_23 : decode cX3_askGate 23 = .ok (.aload_n 0, 1) := by decide +kernel
theorem dX3_askGate_24 : decode cX3_askGate 24 = .ok (.getfield 45, 3) := by decide +kernel
theorem dX3_askGate_27 : decode cX3_askGate 27 = .ok (.getfield 140, 3) := by decide +kernel
theorem dX3_askGate_30 : decode cX3_askGate 30 = .ok (.iload_n 1, 1) := by decide +kernel
theorem dX3_askGate_31 : decode cX3_askGate 31 = .ok (.iaload, 1) := by decide +kernel
theorem dX3_askGate_32 : decode cX3_askGate 32 = .ok (.invokevirtual 137, 3) := by decide +kernel
theorem dX3_askGate_35 : decode cX3_askGate 35 = .ok (.aload_n 0, 1) := by decide +kernel
theorem dX3_askGate_36 : decode cX3_askGate 36 = .ok (.aload_n 0, 1) := by decide +kernel
theorem dX3_askGate_37 : decode cX3_askGate 37 = .ok (.getfield 45, 3) := by decide +kernel
theorem dX3_askGate_40 : decode cX3_askGate 40 = .ok (.getfield 143, 3) := by decide +kernel
theorem dX3_askGate_43 : decode cX3_askGate 43 = .ok (.iload_n 1, 1) := by decide +kernel
theorem dX3_askGate_44 : decode cX3_askGate 44 = .ok (.iaload, 1) := by decide +kernel
theorem dX3_askGate_45 : decode cX3_askGate 45 = .ok (.invokevirtual 137, 3) := by decide +kernel
theorem dX3_askGate_48 : decode cX3_askGate 48 = .ok (.invokestatic 146, 3) := by decide +kernel
theorem dX3_askGate_51 : decode cX3_askGate 51 = .ok (.istore_n 2, 1) := by decide +kernel
theorem dX3_askGate_52 : decode cX3_askGate 52 = .ok (.aload_n 0, 1) := by decide +kernel
theorem dX3_askGate_53 : decode cX3_askGate 53 = .ok (.getfield 24, 3) := by decide +kernel
theorem dX3_askGate_56 : decode cX3_askGate 56 = .ok (.iload_n 1, 1) := by decide +kernel
theorem dX3_askGate_57 : decode cX3_askGate 57 = .ok (.iaload, 1) := by decide +kernel
theorem dX3_askGate_58 : decode cX3_askGate 58 = .ok (.iconst (-1), 1) := by decide +kernel
theorem dX3_askGate_59 : decode cX3_askGate 59 = .ok (.if_icmp .eq 30, 3) := by decide +kernel
theorem dX3_askGate_62 : decode cX3_askGate 62 = .ok (.aload_n 0, 1) := by decide +kernel
theorem dX3_askGate_63 : decode cX3_askGate 63 = .ok (.getfield 24, 3) := by decide +kernel
theorem dX3_askGate_66 : decode cX3_askGate 66 = .ok (.iload_n 1, 1) := by decide +kernel
theorem dX3_askGate_67 : decode cX3_askGate 67 = .ok (.iaload, 1) := by decide +kernel
theorem dX3_askGate_68 : decode cX3_askGate 68 = .ok (.iload_n 2, 1) := by decide +kernel
theorem dX3_askGate_69 : decode cX3_askGate 69 = .ok (.if_icmp .eq 20, 3) := by decide +kernel
theorem dX3_askGate_72 : decode cX3_askGate 72 = .ok (.aload_n 0, 1) := by decide +kernel
theorem dX3_askGate_73 : decode cX3_askGate 73 = .ok (.getfield 24, 3) := by decide +kernel
theorem dX3_askGate_76 : decode cX3_askGate 76 = .ok (.iload_n 1, 1) := by decide +kernel
theorem dX3_askGate_77 : decode cX3_askGate 77 = .ok (.iconst (-1), 1) := by decide +kernel
theorem dX3_askGate_78 : decode cX3_askGate 78 = .ok (.iastore, 1) := by decide +kernel
theorem dX3_askGate_79 : decode cX3_askGate 79 = .ok (.aload_n 0, 1) := by decide +kernel
theorem dX3_askGate_80 : decode cX3_askGate 80 = .ok (.dup, 1) := by decide +kernel
theorem dX3_askGate_81 : decode cX3_askGate 81 = .ok (.getfield 74, 3) := by decide +kernel
theorem dX3_askGate_84 : decode cX3_askGate 84 = .ok (.iconst 1, 1) := by decide +kernel
theorem dX3_askGate_85 : decode cX3_askGate 85 = .ok (.iadd, 1) := by decide +kernel
theorem dX3_askGate_86 : decode cX3_askGate 86 = .ok (.putfield 74, 3) := by decide +kernel
theorem dX3_askGate_89 : decode cX3_askGate 89 = .ok (.aload_n 0, 1) := by decide +kernel
theorem dX3_askGate_90 : decode cX3_askGate 90 = .ok (.getfield 24, 3) := by decide +kernel
theorem dX3_askGate_93 : decode cX3_askGate 93 = .ok (.iload_n 1, 1) := by decide +kernel
theorem dX3_askGate_94 : decode cX3_askGate 94 = .ok (.iaload, 1) := by decide +kernel
theorem dX3_askGate_95 : decode cX3_askGate 95 = .ok (.iconst (-1), 1) := by decide +kernel
theorem dX3_askGate_96 : decode cX3_askGate 96 = .ok (.if_icmp .ne 26, 3) := by decide +kernel
theorem dX3_askGate_99 : decode cX3_askGate 99 = .ok (.iload_n 2, 1) := by decide +kernel
theorem dX3_askGate_100 : decode cX3_askGate 100 = .ok (.aload_n 0, 1) := by decide +kernel
theorem dX3_askGate_101 : decode cX3_askGate 101 = .ok (.aload_n 0, 1) := by decide +kernel
theorem dX3_askGate_102 : decode cX3_askGate 102 = .ok (.getfield 45, 3) := by decide +kernel
theorem dX3_askGate_105 : decode cX3_askGate 105 = .ok (.getfield 97, 3) := by decide +kernel
theorem dX3_askGate_108 : decode cX3_askGate 108 = .ok (.iload_n 1, 1) := by decide +kernel
theorem dX3_askGate_109 : decode cX3_askGate 109 = .ok (.iaload, 1) := by decide +kernel
theorem dX3_askGate_110 : decode cX3_askGate 110 = .ok (.invokevirtual 137, 3) := by decide +kernel
theorem dX3_askGate_113 : decode cX3_askGate 113 = .ok (.if_icmp .eq 9, 3) := by decide +kernel
theorem dX3_askGate_116 : decode cX3_askGate 116 = .ok (.aload_n 0, 1) := by decide +kernel
theorem dX3_askGate_117 : decode cX3_askGate 117 = .ok (.iload_n 1, 1) := by decide +kernel
theorem dX3_askGate_118 : decode cX3_askGate 118 = .ok (.iload_n 2, 1) := by decide +kernel
theorem dX3_askGate_119 : decode cX3_askGate 119 = .ok (.invokevirtual 150, 3) := by decide +kernel
theorem dX3_askGate_122 : decode cX3_askGate 122 = .ok (.return_, 1) := by decide +kernel
theorem dX3_askRegister_0 : decode cX3_askRegister 0 = .ok (.aload_n 0, 1) := by decide +kernel
theorem dX3_askRegister_1 : decode cX3_askRegister 1 = .ok (.getfield 45, 3) := by decide +kernel
theorem dX3_askRegister_4 : decode cX3_askRegister 4 = .ok (.getfield 143, 3) := by decide +kernel
theorem dX3_askRegister_7 : decode cX3_askRegister 7 = .ok (.iload_n 1, 1) := by decide +kernel
theorem dX3_askRegister_8 : decode cX3_askRegister 8 = .ok (.iaload, 1) := by decide +kernel
theorem dX3_askRegister_9 : decode cX3_askRegister 9 = .ok (.istore 4, 2) := by decide +kernel
theorem dX3_askRegister_11 : decode cX3_askRegister 11 = .ok (.aload_n 0, 1) := by decide +kernel
theorem dX3_askRegister_12 : decode cX3_askRegister 12 = .ok (.getfield 45, 3) := by decide +kernel
theorem dX3_askRegister_15 : decode cX3_askRegister 15 = .ok (.getfield 140, 3) := by decide +kernel
theorem dX3_askRegister_18 : decode cX3_askRegister 18 = .ok (.iload_n 1, 1) := by decide +kernel
theorem dX3_askRegister_19 : decode cX3_askRegister 19 = .ok (.iaload, 1) := by decide +kernel
theorem dX3_askRegister_20 : decode cX3_askRegister 20 = .ok (.istore 5, 2) := by decide +kernel
theorem dX3_askRegister_22 : decode cX3_askRegister 22 = .ok (.aload_n 0, 1) := by decide +kernel
theorem dX3_askRegister_23 : decode cX3_askRegister 23 = .ok (.getfield 45, 3) := by decide +kernel
theorem dX3_askRegister_26 : decode cX3_askRegister 26 = .ok (.getfield 134, 3) := by decide +kernel
theorem dX3_askRegister_29 : decode cX3_askRegister 29 = .ok (.iload_n 1, 1) := by decide +kernel
theorem dX3_askRegister_30 : decode cX3_askRegister 30 = .ok (.iaload, 1) := by decide +kernel
theorem dX3_askRegister_31 : decode cX3_askRegister 31 = .ok (.istore 6, 2) := by decide +kernel
theorem dX3_askRegister_33 : decode cX3_askRegister 33 = .ok (.iload_n 2, 1) := by decide +kernel
theorem dX3_askRegister_34 : decode cX3_askRegister 34 = .ok (.iload 4, 2) := by decide +kernel
theorem dX3_askRegister_36 : decode cX3_askRegister 36 = .ok (.if_icmp .ne 19, 3) := by decide +kernel
theorem dX3_askRegister_39 : decode cX3_askRegister 39 = .ok (.aload_n 0, 1) := by decide +kernel
theorem dX3_askRegister_40 : decode cX3_askRegister 40 = .ok (.iload 4, 2) := by decide +kernel
theorem dX3_askRegister_42 : decode cX3_askRegister 42 = .ok (.invokevirtual 137, 3) := by decide +kernel
theorem dX3_askRegister_45 : decode cX3_askRegister 45 = .ok (.iconst 1, 1) := by decide +kernel
theorem dX3_askRegister_46 : decode cX3_askRegister 46 = .ok (.if_icmp .ne 9, 3) := by decide +kernel
theorem dX3_askRegister_49 : decode cX3_askRegister 49 = .ok (.aload_n 0, 1) := by decide +kernel
theorem dX3_askRegister_50 : decode cX3_askRegister 50 = .ok (.iload_n 1, 1) := by decide +kernel
theorem dX3_askRegister_51 : decode cX3_askRegister 51 = .ok (.iconst 0, 1) := by decide +kernel
theorem dX3_askRegister_52 : decode cX3_askRegister 52 = .ok (.invokevirtual 150, 3) := by decide +kernel
theorem dX3_askRegister_55 : decode cX3_askRegister 55 = .ok (.iload_n 2, 1) := by decide +kernel
theorem dX3_askRegister_56 : decode cX3_askRegister 56 = .ok (.iload 5, 2) := by decide +kernel
theorem dX3_askRegister_58 : decode cX3_askRegister 58 = .ok (.if_icmp .ne 37, 3) := by decide +kernel
theorem dX3_askRegister_61 : decode cX3_askRegister 61 = .ok (.iload_n 3, 1) := by decide +kernel
theorem dX3_askRegister_62 : decode cX3_askRegister 62 = .ok (.ifCond .ne 33, 3) := by decide +kernel
theorem dX3_askRegister_65 : decode cX3_askRegister 65 = .ok (.aload_n 0, 1) := by decide +kernel
theorem dX3_askRegister_66 : decode cX3_askRegister 66 = .ok (.iload 5, 2) := by decide +kernel
theorem dX3_askRegister_68 : decode cX3_askRegister 68 = .ok (.invokevirtual 137, 3) := by decide +kernel
theorem dX3_askRegister_71 : decode cX3_askRegister 71 = .ok (.iconst 1, 1) := by decide +kernel
theorem dX3_askRegister_72 : decode cX3_askRegister 72 = .ok (.if_icmp .ne 23, 3) := by decide +kernel
theorem dX3_askRegister_75 : decode cX3_askRegister 75 = .ok (.iload 4, 2) := by decide +kernel
theorem dX3_askRegister_77 : decode cX3_askRegister 77 = .ok (.iconst (-1), 1) := by decide +kernel
theorem dX3_askRegister_78 : decode cX3_askRegister 78 = .ok (.if_icmp .eq 12, 3) := by decide +kernel
theorem dX3_askRegister_81 : decode cX3_askRegister 81 = .ok (.aload_n 0, 1) := by decide +kernel
theorem dX3_askRegister_82 : decode cX3_askRegister 82 = .ok (.iload 4, 2) := by decide +kernel
theorem dX3_askRegister_84 : decode cX3_askRegister 84 = .ok (.invokevirtual 137, 3) := by decide +kernel
theorem dX3_askRegister_87 : decode cX3_askRegister 87 = .ok (.ifCond .ne 8, 3) := by decide +kernel
theorem dX3_askRegister_90 : decode cX3_askRegister 90 = .ok (.aload_n 0, 1) := by decide +kernel
theorem dX3_askRegister_91 : decode cX3_askRegister 91 = .ok (.iload_n 1, 1) := by decide +kernel
theorem dX3_askRegister_92 : decode cX3_askRegister 92 = .ok (.invokevirtual 153, 3) := by decide +kernel
theorem dX3_askRegister_95 : decode cX3_askRegister 95 = .ok (.iload_n 2, 1) := by decide +kernel
theorem dX3_askRegister_96 : decode cX3_askRegister 96 = .ok (.iload 6, 2) := by decide +kernel
theorem dX3_askRegister_98 : decode cX3_askRegister 98 = .ok (.if_icmp .ne 45, 3) := by decide +kernel
theorem dX3_askRegister_101 : decode cX3_askRegister 101 = .ok (.aload_n 0, 1) := by decide +kernel
theorem dX3_askRegister_102 : decode cX3_askRegister 102 = .ok (.aload_n 0, 1) := by decide +kernel
theorem dX3_askRegister_103 : decode cX3_askRegister 103 = .ok (.getfield 33, 3) := by decide +kernel
theorem dX3_askRegister_106 : decode cX3_askRegister 106 = .ok (.iload_n 1, 1) := by decide +kernel
theorem dX3_askRegister_107 : decode cX3_askRegister 107 = .ok (.iaload, 1) := by decide +kernel
theorem dX3_askRegister_108 : decode cX3_askRegister 108 = .ok (.aload_n 0, 1) := by decide +kernel
theorem dX3_askRegister_109 : decode cX3_askRegister 109 = .ok (.getfield 45, 3) := by decide +kernel
theorem dX3_askRegister_112 : decode cX3_askRegister 112 = .ok (.getfield 156, 3) := by decide +kernel
theorem dX3_askRegister_115 : decode cX3_askRegister 115 = .ok (.iload_n 1, 1) := by decide +kernel
theorem dX3_askRegister_116 : decode cX3_askRegister 116 = .ok (.iaload, 1) := by decide +kernel
theorem dX3_askRegister_117 : decode cX3_askRegister 117 = .ok (.invokevirtual 159, 3) := by decide +kernel
theorem dX3_askRegister_120 : decode cX3_askRegister 120 = .ok (.ifCond .eq 23, 3) := by decide +kernel
theorem dX3_askRegister_123 : decode cX3_askRegister 123 = .ok (.aload_n 0, 1) := by decide +kernel
theorem dX3_askRegister_124 : decode cX3_askRegister 124 = .ok (.iconst 4, 1) := by decide +kernel
theorem dX3_askRegister_125 : decode cX3_askRegister 125 = .ok (.aload_n 0, 1) := by decide +kernel
theorem dX3_askRegister_126 : decode cX3_askRegister 126 = .ok (.getfield 45, 3) := by decide +kernel
theorem dX3_askRegister_129 : decode cX3_askRegister 129 = .ok (.getfield 97, 3) := by decide +kernel
theorem dX3_askRegister_132 : decode cX3_askRegister 132 = .ok (.iload_n 1, 1) := by decide +kernel
theorem dX3_askRegister_133 : decode cX3_askRegister 133 = .ok (.iaload, 1) := by decide +kernel
theorem dX3_askRegister_134 : decode cX3_askRegister 134 = .ok (.invokevirtual 162, 3) := by decide +kernel
theorem dX3_askRegister_137 : decode cX3_askRegister 137 = .ok (.aload_n 0, 1) := by decide +kernel
theorem dX3_askRegister_138 : decode cX3_askRegister 138 = .ok (.iload_n 1, 1) := by decide +kernel
theorem dX3_askRegister_139 : decode cX3_askRegister 139 = .ok (.iconst 2, 1) := by decide +kernel
theorem dX3_askRegister_140 : decode cX3_askRegister 140 = .ok (.invokevirtual 150, 3) := by decide +kernel
theorem dX3_askRegister_143 : decode cX3_askRegister 143 = .ok (.return_, 1) := by decide +kernel
theorem dX3_rise_0 : decode cX3_rise 0 = .ok (.aload_n 0, 1) := by decide +kernel
theorem dX3_rise_1 : decode cX3_rise 1 = .ok (.getfield 45, 3) := by decide +kernel
theorem dX3_rise_4 : decode cX3_rise 4 = .ok (.getfield 134, 3) := by decide +kernel
theorem dX3_rise_7 : decode cX3_rise 7 = .ok (.iload_n 1, 1) := by decide +kernel
theorem dX3_rise_8 : decode cX3_rise 8 = .ok (.iaload, 1) := by decide +kernel
theorem dX3_rise_9 : decode cX3_rise 9 = .ok (.istore_n 2, 1) := by decide +kernel
theorem dX3_rise_10 : decode cX3_rise 10 = .ok (.aload_n 0, 1) := by decide +kernel
theorem dX3_rise_11 : decode cX3_rise 11 = .ok (.iload_n 2, 1) := by decide +kernel
theorem dX3_rise_12 : decode cX3_rise 12 = .ok (.invokevirtual 137, 3) := by decide +kernel
theorem dX3_rise_15 : decode cX3_rise 15 = .ok (.istore_n 3, 1) := by decide +kernel
theorem dX3_rise_16 : decode cX3_rise 16 = .ok (.aload_n 0, 1) := by decide +kernel
theorem dX3_rise_17 : decode cX3_rise 17 = .ok (.getfield 33, 3) := by decide +kernel
theorem dX3_rise_20 : decode cX3_rise 20 = .ok (.iload_n 1, 1) := by decide +kernel
theorem dX3_rise_21 : decode cX3_rise 21 = .ok (.aload_n 0, 1) := by decide +kernel
theorem dX3_rise_22 : decode cX3_rise 22 = .ok (.getfield 68, 3) := by decide +kernel
theorem dX3_rise_25 : decode cX3_rise 25 = .ok (.iastore, 1) := by decide +kernel
theorem dX3_rise_26 : decode cX3_rise 26 = .ok (.iload_n 2, 1) := by decide +kernel
theorem dX3_rise_27 : decode cX3_rise 27 = .ok (.invokestatic 119, 3) := by decide +kernel
theorem dX3_rise_30 : decode cX3_rise 30 = .ok (.ifCond .eq 41, 3) := by decide +kernel
theorem dX3_rise_33 : decode cX3_rise 33 = .ok (.aload_n 0, 1) := by decide +kernel
theorem dX3_rise_34 : decode cX3_rise 34 = .ok (.aload_n 0, 1) := by decide +kernel
theorem dX3_rise_35 : decode cX3_rise 35 = .ok (.getfield 15, 3) := by decide +kernel
theorem dX3_rise_38 : decode cX3_rise 38 = .ok (.iload_n 2, 1) := by decide +kernel
theorem dX3_rise_39 : decode cX3_rise 39 = .ok (.iaload, 1) := by decide +kernel
theorem dX3_rise_40 : decode cX3_rise 40 = .ok (.aload_n 0, 1) := by decide +kernel
theorem dX3_rise_41 : decode cX3_rise 41 = .ok (.getfield 45, 3) := by decide +kernel
theorem dX3_rise_44 : decode cX3_rise 44 = .ok (.getfield 165, 3) := by decide +kernel
theorem dX3_rise_47 : decode cX3_rise 47 = .ok (.iload_n 1, 1) := by decide +kernel
theorem dX3_rise_48 : decode cX3_rise 48 = .ok (.iaload, 1) := by decide +kernel
theorem dX3_rise_49 : decode cX3_rise 49 = .ok (.invokevirtual 159, 3) := by decide +kernel
theorem dX3_rise_52 : decode cX3_rise 52 = .ok (.ifCond .eq 19, 3) := by decide +kernel
theorem dX3_rise_55 : decode cX3_rise 55 = .ok (.aload_n 0, 1) := by decide +kernel
theorem dX3_rise_56 : decode cX3_rise 56 = .ok (.iconst 3, 1) := by decide +kernel
theorem dX3_rise_57 : decode cX3_rise 57 = .ok (.aload_n 0, 1) := by decide +kernel
theorem dX3_rise_58 : decode cX3_rise 58 = .ok (.getfield 45, 3) := by decide +kernel
theorem dX3_rise_61 : decode cX3_rise 61 = .ok (.getfield 97, 3) := by decide +kernel
theorem dX3_rise_64 : decode cX3_rise 64 = .ok (.iload_n 1, 1) := by decide +kernel
theorem dX3_rise_65 : decode cX3_rise 65 = .ok (.iaload, 1) := by decide +kernel
theorem dX3_rise_66 : decode cX3_rise 66 = .ok (.invokevirtual 162, 3) := by decide +kernel
theorem dX3_rise_69 : decode cX3_rise 69 = .ok (.iconst 2, 1) := by decide +kernel
theorem dX3_rise_70 : decode cX3_rise 70 = .ok (.istore_n 3, 1) := by decide +kernel
theorem dX3_rise_71 : decode cX3_rise 71 = .ok (.aload_n 0, 1) := by decide +kernel
theorem dX3_rise_72 : decode cX3_rise 72 = .ok (.iload_n 1, 1) := by decide +kernel
theorem dX3_rise_73 : decode cX3_rise 73 = .ok (.iload_n 3, 1) := by decide +kernel
theorem dX3_rise_74 : decode cX3_rise 74 = .ok (.invokevirtual 150, 3) := by decide +kernel
theorem dX3_rise_77 : decode cX3_rise 77 = .ok (.return_, 1) := by decide +kernel
theorem dX3_isRecent_0 : decode cX3_isRecent 0 = .ok (.iload_n 1, 1) := by decide +kernel
theorem dX3_isRecent_1 : decode cX3_isRecent 1 = .ok (.iconst (-1), 1) := by decide +kernel
theorem dX3_isRecent_2 : decode cX3_isRecent 2 = .ok (.if_icmp .eq 17, 3) := by decide +kernel
theorem dX3_isRecent_5 : decode cX3_isRecent 5 = .ok (.iload_n 1, 1) := by decide +kernel
theorem dX3_isRecent_6 : decode cX3_isRecent 6 = .ok (.aload_n 0, 1) := by decide +kernel
theorem dX3_isRecent_7 : decode cX3_isRecent 7 = .ok (.getfield 68, 3) := by decide +kernel
theorem dX3_isRecent_10 : decode cX3_isRecent 10 = .ok (.iload_n 2, 1) := by decide +kernel
theorem dX3_isRecent_11 : decode cX3_isRecent 11 = .ok (.isub, 1) := by decide +kernel
theorem dX3_isRecent_12 : decode cX3_isRecent 12 = .ok (.if_icmp .le 7, 3) := by decide +kernel
theorem dX3_isRecent_15 : decode cX3_isRecent 15 = .ok (.iconst 1, 1) := by decide +kernel
theorem dX3_isRecent_16 : decode cX3_isRecent 16 = .ok (.goto 4, 3) := by decide +kernel
theorem dX3_isRecent_19 : decode cX3_isRecent 19 = .ok (.iconst 0, 1) := by decide +kernel
theorem dX3_isRecent_20 : decode cX3_isRecent 20 = .ok (.ireturn, 1) := by decide +kernel
theorem dX3_makePending_0 : decode cX3_makePending 0 = .ok (.aload_n 0, 1) := by decide +kernel
theorem dX3_makePending_1 : decode cX3_makePending 1 = .ok (.getfield 24, 3) := by decide +kernel
theorem dX3_makePending_4 : decode cX3_makePending 4 = .ok (.iload_n 1, 1) := by decide +kernel
theorem dX3_makePending_5 : decode cX3_makePending 5 = .ok (.iload_n 2, 1) := by decide +kernel
theorem dX3_makePending_6 : decode cX3_makePending 6 = .ok (.iastore, 1) := by decide +kernel
theorem dX3_makePending_7 : decode cX3_makePending 7 = .ok (.aload_n 0, 1) := by decide +kernel
theorem dX3_makePending_8 : decode cX3_makePending 8 = .ok (.getfield 27, 3) := by decide +kernel
theorem dX3_makePending_11 : decode cX3_makePending 11 = .ok (.iload_n 1, 1) := by decide +kernel
theorem dX3_makePending_12 : decode cX3_makePending 12 = .ok (.aload_n 0, 1) := by decide +kernel
theorem dX3_makePending_13 : decode cX3_makePending 13 = .ok (.getfield 68, 3) := by decide +kernel
theorem dX3_makePending_16 : decode cX3_makePending 16 = .ok (.aload_n 0, 1) := by decide +kernel
theorem dX3_makePending_17 : decode cX3_makePending 17 = .ok (.getfield 45, 3) := by decide +kernel
theorem dX3_makePending_20 : decode cX3_makePending 20 = .ok (.getfield 168, 3) := by decide +kernel
theorem dX3_makePending_23 : decode cX3_makePending 23 = .ok (.iload_n 1, 1) := by decide +kernel
theorem dX3_makePending_24 : decode cX3_makePending 24 = .ok (.iaload, 1) := by decide +kernel
theorem dX3_makePending_25 : decode cX3_makePending 25 = .ok (.iadd, 1) := by decide +kernel
theorem dX3_makePending_26 : decode cX3_makePending 26 = .ok (.iastore, 1) := by decide +kernel
theorem dX3_makePending_27 : decode cX3_makePending 27 = .ok (.aload_n 0, 1) := by decide +kernel
theorem dX3_makePending_28 : decode cX3_makePending 28 = .ok (.getfield 30, 3) := by decide +kernel
theorem dX3_makePending_31 : decode cX3_makePending 31 = .ok (.iload_n 1, 1) := by decide +kernel
theorem dX3_makePending_32 : decode cX3_makePending 32 = .ok (.aload_n 0, 1) := by decide +kernel
theorem dX3_makePending_33 : decode cX3_makePending 33 = .ok (.getfield 71, 3) := by decide +kernel
theorem dX3_makePending_36 : decode cX3_makePending 36 = .ok (.iastore, 1) := by decide +kernel
theorem dX3_makePending_37 : decode cX3_makePending 37 = .ok (.aload_n 0, 1) := by decide +kernel
theorem dX3_makePending_38 : decode cX3_makePending 38 = .ok (.dup, 1) := by decide +kernel
theorem dX3_makePending_39 : decode cX3_makePending 39 = .ok (.getfield 71, 3) := by decide +kernel
theorem dX3_makePending_42 : decode cX3_makePending 42 = .ok (.iconst 1, 1) := by decide +kernel
theorem dX3_makePending_43 : decode cX3_makePending 43 = .ok (.iadd, 1) := by decide +kernel
theorem dX3_makePending_44 : decode cX3_makePending 44 = .ok (.putfield 71, 3) := by decide +kernel
theorem dX3_makePending_47 : decode cX3_makePending 47 = .ok (.return_, 1) := by decide +kernel
theorem dX3_valueOf_0 : decode cX3_valueOf 0 = .ok (.iload_n 1, 1) := by decide +kernel
theorem dX3_valueOf_1 : decode cX3_valueOf 1 = .ok (.ifCond .lt 18, 3) := by decide +kernel
theorem dX3_valueOf_4 : decode cX3_valueOf 4 = .ok (.iload_n 1, 1) := by decide +kernel
theorem dX3_valueOf_5 : decode cX3_valueOf 5 = .ok (.bipush 24, 2) := by decide +kernel
theorem dX3_valueOf_7 : decode cX3_valueOf 7 = .ok (.if_icmp .ge 12, 3) := by decide +kernel
theorem dX3_valueOf_10 : decode cX3_valueOf 10 = .ok (.aload_n 0, 1) := by decide +kernel
theorem dX3_valueOf_11 : decode cX3_valueOf 11 = .ok (.getfield 9, 3) := by decide +kernel
theorem dX3_valueOf_14 : decode cX3_valueOf 14 = .ok (.iload_n 1, 1) := by decide +kernel
theorem dX3_valueOf_15 : decode cX3_valueOf 15 = .ok (.iaload, 1) := by decide +kernel
theorem dX3_valueOf_16 : decode cX3_valueOf 16 = .ok (.goto 4, 3) := by decide +kernel
theorem dX3_valueOf_19 : decode cX3_valueOf 19 = .ok (.iconst 2, 1) := by decide +kernel
theorem dX3_valueOf_20 : decode cX3_valueOf 20 = .ok (.ireturn, 1) := by decide +kernel
theorem dX3_noteHazardsOfGates_0 : decode cX3_noteHazardsOfGates 0 = .ok (.iconst 0, 1) := by decide +kernel
theorem dX3_noteHazardsOfGates_1 : decode cX3_noteHazardsOfGates 1 = .ok (.istore_n 1, 1) := by decide +kernel
theorem dX3_noteHazardsOfGates_2 : decode cX3_noteHazardsOfGates 2 = .ok (.iload_n 1, 1) := by decide +kernel
theorem dX3_noteHazardsOfGates_3 : decode cX3_noteHazardsOfGates 3 = .ok (.bipush 24, 2) := by decide +kernel
theorem dX3_noteHazardsOfGates_5 : decode cX3_noteHazardsOfGates 5 = .ok (.if_icmp .ge 121, 3) := by decide +kernel
theorem dX3_noteHazardsOfGates_8 : decode cX3_noteHazardsOfGates 8 = .ok (.aload_n 0, 1) := by decide +kernel
theorem dX3_noteHazardsOfGates_9 : decode cX3_noteHazardsOfGates 9 = .ok (.getfield 45, 3) := by decide +kernel
theorem dX3_noteHazardsOfGates_12 : decode cX3_noteHazardsOfGates 12 = .ok (.iload_n 1, 1) := by decide +kernel
theorem dX3_noteHazardsOfGates_13 : decode cX3_noteHazardsOfGates 13 = .ok (.invokevirtual 171, 3) := by decide +kernel
theorem dX3_noteHazardsOfGates_16 : decode cX3_noteHazardsOfGates 16 = .ok (.istore_n 2, 1) := by decide +kernel
theorem dX3_noteHazardsOfGates_17 : decode cX3_noteHazardsOfGates 17 = .ok (.iload_n 2, 1) := by decide +kernel
theorem dX3_noteHazardsOfGates_18 : decode cX3_noteHazardsOfGates 18 = .ok (.iconst (-1), 1) := by decide +kernel
theorem dX3_noteHazardsOfGates_19 : decode cX3_noteHazardsOfGates 19 = .ok (.if_icmp .eq 101, 3) := by decide +kernel
theorem dX3_noteHazardsOfGates_22 : decode cX3_noteHazardsOfGates 22 = .ok (.aload_n 0, 1) := by decide +kernel
theorem dX3_noteHazardsOfGates_23 : decode cX3_noteHazardsOfGates 23 = .ok (.getfield 45, 3) := by decide +kernel
theorem dX3_noteHazardsOfGates_26 : decode cX3_noteHazardsOfGates 26 = .ok (.iload_n 2, 1) := by decide +kernel
theorem dX3_noteHazardsOfGates_27 : decode cX3_noteHazardsOfGates 27 = .ok (.invokevirtual 174, 3) := by decide +kernel
theorem dX3_noteHazardsOfGates_30 : decode cX3_noteHazardsOfGates 30 = .ok (.ifCond .eq 90, 3) := by decide +kernel
theorem dX3_noteHazardsOfGates_33 : decode cX3_noteHazardsOfGates 33 = .ok (.aload_n 0, 1) := by decide +kernel
theorem dX3_noteHazardsOfGates_34 : decode cX3_noteHazardsOfGates 34 = .ok (.getfield 21, 3) := by decide +kernel
theorem dX3_noteHazardsOfGates_37 : decode cX3_noteHazardsOfGates 37 = .ok (.iload_n 1, 1) := by decide +kernel
theorem dX3_noteHazardsOfGates_38 : decode cX3_noteHazardsOfGates 38 = .ok (.iaload, 1) := by decide +kernel
theorem dX3_noteHazardsOfGates_39 : decode cX3_noteHazardsOfGates 39 = .ok (.iconst 2, 1) := by decide +kernel
theorem dX3_noteHazardsOfGates_40 : decode cX3_noteHazardsOfGates 40 = .ok (.if_icmp .eq 80, 3) := by decide +kernel
theorem dX3_noteHazardsOfGates_43 : decode cX3_noteHazardsOfGates 43 = .ok (.aload_n 0, 1) := by decide +kernel
theorem dX3_noteHazardsOfGates_44 : decode cX3_noteHazardsOfGates 44 = .ok (.getfield 9, 3) := by decide +kernel
theorem dX3_noteHazardsOfGates_47 : decode cX3_noteHazardsOfGates 47 = .ok (.iload_n 1, 1) := by decide +kernel
theorem dX3_noteHazardsOfGates_48 : decode cX3_noteHazardsOfGates 48 = .ok (.iaload, 1) := by decide +kernel
theorem dX3_noteHazardsOfGates_49 : decode cX3_noteHazardsOfGates 49 = .ok (.iconst 2, 1) := by decide +kernel
theorem dX3_noteHazardsOfGates_50 : decode cX3_noteHazardsOfGates 50 = .ok (.if_icmp .ne 6, 3) := by decide +kernel
theorem dX3_noteHazardsOfGates_53 : decode cX3_noteHazardsOfGates 53 = .ok (.goto 67, 3) := by decide +kernel
theorem dX3_noteHazardsOfGates_56 : decode cX3_noteHazardsOfGates 56 = .ok (.aload_n 0, 1) := by decide +kernel
theorem dX3_noteHazardsOfGates_57 : decode cX3_noteHazardsOfGates 57 = .ok (.getfield 9, 3) := by decide +kernel
theorem dX3_noteHazardsOfGates_60 : decode cX3_noteHazardsOfGates 60 = .ok (.iload_n 1, 1) := by decide +kernel
theorem dX3_noteHazardsOfGates_61 : decode cX3_noteHazardsOfGates 61 = .ok (.iaload, 1) := by decide +kernel
theorem dX3_noteHazardsOfGates_62 : decode cX3_noteHazardsOfGates 62 = .ok (.aload_n 0, 1) := by decide +kernel
theorem dX3_noteHazardsOfGates_63 : decode cX3_noteHazardsOfGates 63 = .ok (.getfield 21, 3) := by decide +kernel
theorem dX3_noteHazardsOfGates_66 : decode cX3_noteHazardsOfGates 66 = .ok (.iload_n 1, 1) := by decide +kernel
theorem dX3_noteHazardsOfGates_67 : decode cX3_noteHazardsOfGates 67 = .ok (.iaload, 1) := by decide +kernel
theorem dX3_noteHazardsOfGates_68 : decode cX3_noteHazardsOfGates 68 = .ok (.if_icmp .ne 21, 3) := by decide +kernel
theorem dX3_noteHazardsOfGates_71 : decode cX3_noteHazardsOfGates 71 = .ok (.aload_n 0, 1) := by decide +kernel
theorem dX3_noteHazardsOfGates_72 : decode cX3_noteHazardsOfGates 72 = .ok (.getfield 18, 3) := by decide +kernel
theorem dX3_noteHazardsOfGates_75 : decode cX3_noteHazardsOfGates 75 = .ok (.iload_n 1, 1) := by decide +kernel
theorem dX3_noteHazardsOfGates_76 : decode cX3_noteHazardsOfGates 76 = .ok (.iaload, 1) := by decide +kernel
theorem dX3_noteHazardsOfGates_77 : decode cX3_noteHazardsOfGates 77 = .ok (.ifCond .le 12, 3) := by decide +kernel
theorem dX3_noteHazardsOfGates_80 : decode cX3_noteHazardsOfGates 80 = .ok (.aload_n 0, 1) := by decide +kernel
theorem dX3_noteHazardsOfGates_81 : decode cX3_noteHazardsOfGates 81 = .ok (.iconst 1, 1) := by decide +kernel
theorem dX3_noteHazardsOfGates_82 : decode cX3_noteHazardsOfGates 82 = .ok (.iload_n 1, 1) := by decide +kernel
theorem dX3_noteHazardsOfGates_83 : decode cX3_noteHazardsOfGates 83 = .ok (.invokevirtual 162, 3) := by decide +kernel
theorem dX3_noteHazardsOfGates_86 : decode cX3_noteHazardsOfGates 86 = .ok (.goto 34, 3) := by decide +kernel
theorem dX3_noteHazardsOfGates_89 : decode cX3_noteHazardsOfGates 89 = .ok (.aload_n 0, 1) := by decide +kernel
theorem dX3_noteHazardsOfGates_90 : decode cX3_noteHazardsOfGates 90 = .ok (.getfield 9, 3) := by decide +kernel
theorem dX3_noteHazardsOfGates_93 : decode cX3_noteHazardsOfGates 93 = .ok (.iload_n 1, 1) := by decide +kernel
theorem dX3_noteHazardsOfGates_94 : decode cX3_noteHazardsOfGates 94 = .ok (.iaload, 1) := by decide +kernel
theorem dX3_noteHazardsOfGates_95 : decode cX3_noteHazardsOfGates 95 = .ok (.aload_n 0, 1) := by decide +kernel
theorem dX3_noteHazardsOfGates_96 : decode cX3_noteHazardsOfGates 96 = .ok (.getfield 21, 3) := by decide +kernel
theorem dX3_noteHazardsOfGates_99 : decode cX3_noteHazardsOfGates 99 = .ok (.iload_n 1, 1) := by decide +kernel
theorem dX3_noteHazardsOfGates_100 : decode cX3_noteHazardsOfGates 100 = .ok (.iaload, 1) := by decide +kernel
theorem dX3_noteHazardsOfGates_101 : decode cX3_noteHazardsOfGates 101 = .ok (.if_icmp .eq 19, 3) := by decide +kernel
theorem dX3_noteHazardsOfGates_104 : decode cX3_noteHazardsOfGates 104 = .ok (.aload_n 0, 1) := by decide +kernel
theorem dX3_noteHazardsOfGates_105 : decode cX3_noteHazardsOfGates 105 = .ok (.getfield 18, 3) := by decide +kernel
theorem dX3_noteHazardsOfGates_108 : decode cX3_noteHazardsOfGates 108 = .ok (.iload_n 1, 1) := by decide +kernel
theorem dX3_noteHazardsOfGates_109 : decode cX3_noteHazardsOfGates 109 = .ok (.iaload, 1) := by decide +kernel
theorem dX3_noteHazardsOfGates_110 : decode cX3_noteHazardsOfGates 110 = .ok (.iconst 3, 1) := by decide +kernel
theorem dX3_noteHazardsOfGates_111 : decode cX3_noteHazardsOfGates 111 = .ok (.if_icmp .lt 9, 3) := by decide +kernel
theorem dX3_noteHazardsOfGates_114 : decode cX3_noteHazardsOfGates 114 = .ok (.aload_n 0, 1) := by decide +kernel
theorem dX3_noteHazardsOfGates_115 : decode cX3_noteHazardsOfGates 115 = .ok (.iconst 2, 1) := by decide +kernel
theorem dX3_noteHazardsOfGates_116 : decode cX3_noteHazardsOfGates 116 = .ok (.iload_n 1, 1) := by decide +kernel
theorem dX3_noteHazardsOfGates_117 : decode cX3_noteHazardsOfGates 117 = .ok (.invokevirtual 162, 3) := by decide +kernel
theorem dX3_noteHazardsOfGates_120 : decode cX3_noteHazardsOfGates 120 = .ok (.iinc 1 1, 3) := by decide +kernel
theorem dX3_noteHazardsOfGates_123 : decode cX3_noteHazardsOfGates 123 = .ok (.goto (-121), 3) := by decide +kernel
theorem dX3_noteHazardsOfGates_126 : decode cX3_noteHazardsOfGates 126 = .ok (.return_, 1) := by decide +kernel
theorem dX3_noteHazard_0 : decode cX3_noteHazard 0 = .ok (.aload_n 0, 1) := by decide +kernel
theorem dX3_noteHazard_1 : decode cX3_noteHazard 1 = .ok (.getfield 64, 3) := by decide +kernel
theorem dX3_noteHazard_4 : decode cX3_noteHazard 4 = .ok (.bipush 40, 2) := by decide +kernel
theorem dX3_noteHazard_6 : decode cX3_noteHazard 6 = .ok (.if_icmp .ge 46, 3) := by decide +kernel
theorem dX3_noteHazard_9 : decode cX3_noteHazard 9 = .ok (.aload_n 0, 1) := by decide +kernel
theorem dX3_noteHazard_10 : decode cX3_noteHazard 10 = .ok (.getfield 36, 3) := by decide +kernel
theorem dX3_noteHazard_13 : decode cX3_noteHazard 13 = .ok (.aload_n 0, 1) := by decide +kernel
theorem dX3_noteHazard_14 : decode cX3_noteHazard 14 = .ok (.getfield 64, 3) := by decide +kernel
theorem dX3_noteHazard_17 : decode cX3_noteHazard 17 = .ok (.iload_n 1, 1) := by decide +kernel
theorem dX3_noteHazard_18 : decode cX3_noteHazard 18 = .ok (.iastore, 1) := by decide +kernel
theorem dX3_noteHazard_19 : decode cX3_noteHazard 19 = .ok (.aload_n 0, 1) := by decide +kernel
theorem dX3_noteHazard_20 : decode cX3_noteHazard 20 = .ok (.getfield 39, 3) := by decide +kernel
theorem dX3_noteHazard_23 : decode cX3_noteHazard 23 = .ok (.aload_n 0, 1) := by decide +kernel
theorem dX3_noteHazard_24 : decode cX3_noteHazard 24 = .ok (.getfield 64, 3) := by decide +kernel
theorem dX3_noteHazard_27 : decode cX3_noteHazard 27 = .ok (.iload_n 2, 1) := by decide +kernel
theorem dX3_noteHazard_28 : decode cX3_noteHazard 28 = .ok (.iastore, 1) := by decide +kernel
theorem dX3_noteHazard_29 : decode cX3_noteHazard 29 = .ok (.aload_n 0, 1) := by decide +kernel
theorem dX3_noteHazard_30 : decode cX3_noteHazard 30 = .ok (.getfield 42, 3) := by decide +kernel
theorem dX3_noteHazard_33 : decode cX3_noteHazard 33 = .ok (.aload_n 0, 1) := by decide +kernel
theorem dX3_noteHazard_34 : decode cX3_noteHazard 34 = .ok (.getfield 64, 3) := by decide +kernel
theorem dX3_noteHazard_37 : decode cX3_noteHazard 37 = .ok (.aload_n 0, 1) := by decide +kernel
theorem dX3_noteHazard_38 : decode cX3_noteHazard 38 = .ok (.getfield 68, 3) := by decide +kernel
theorem dX3_noteHazard_41 : decode cX3_noteHazard 41 = .ok (.iastore, 1) := by decide +kernel
theorem dX3_noteHazard_42 : decode cX3_noteHazard 42 = .ok (.aload_n 0, 1) := by decide +kernel
theorem dX3_noteHazard_43 : decode cX3_noteHazard 43 = .ok (.dup, 1) := by decide +kernel
theorem dX3_noteHazard_44 : decode cX3_noteHazard 44 = .ok (.getfield 64, 3) := by decide +kernel
theorem dX3_noteHazard_47 : decode cX3_noteHazard 47 = .ok (.iconst 1, 1) := by decide +kernel
theorem dX3_noteHazard_48 : decode cX3_noteHazard 48 = .ok (.iadd, 1) := by decide +kernel
theorem dX3_noteHazard_49 : decode cX3_noteHazard 49 = .ok (.putfield 64, 3) := by decide +kernel
theorem dX3_noteHazard_52 : decode cX3_noteHazard 52 = .ok (.return_, 1) := by decide +kernel
theorem dX3_worked_0 : decode cX3_worked 0 = .ok (.iload_n 0, 1) := by decide +kernel
theorem dX3_worked_1 : decode cX3_worked 1 = .ok (.tableswitch 116 0 7 #[47, 52, 54, 60, 66, 91, 100, 109], 47) := by decide +kernel
theorem dX3_worked_48 : decode cX3_worked 48 = .ok (.iload_n 1, 1) := by decide +kernel
theorem dX3_worked_49 : decode cX3_worked 49 = .ok (.invokestatic 177, 3) := by decide +kernel
theorem dX3_worked_52 : decode cX3_worked 52 = .ok (.ireturn, 1) := by decide +kernel
theorem dX3_worked_53 : decode cX3_worked 53 = .ok (.iload_n 1, 1) := by decide +kernel
theorem dX3_worked_54 : decode cX3_worked 54 = .ok (.ireturn, 1) := by decide +kernel
theorem dX3_worked_55 : decode cX3_worked 55 = .ok (.iload_n 1, 1) := by decide +kernel
theorem dX3_worked_56 : decode cX3_worked 56 = .ok (.iload_n 2, 1) := by decide +kernel
theorem dX3_worked_57 : decode cX3_worked 57 = .ok (.invokestatic 180, 3) := by decide +kernel
theorem dX3_worked_60 : decode cX3_worked 60 = .ok (.ireturn, 1) := by decide +kernel
theorem dX3_worked_61 : decode cX3_worked 61 = .ok (.iload_n 1, 1) := by decide +kernel
theorem dX3_worked_62 : decode cX3_worked 62 = .ok (.iload_n 2, 1) := by decide +kernel
theorem dX3_worked_63 : decode cX3_worked 63 = .ok (.invokestatic 184, 3) := by decide +kernel
theorem dX3_worked_66 : decode cX3_worked 66 = .ok (.ireturn, 1) := by decide +kernel
theorem dX3_worked_67 : decode cX3_worked 67 = .ok (.iload_n 1, 1) := by decide +kernel
theorem dX3_worked_68 : decode cX3_worked 68 = .ok (.iconst 2, 1) := by decide +kernel
theorem dX3_worked_69 : decode cX3_worked 69 = .ok (.if_icmp .eq 8, 3) := by decide +kernel
theorem dX3_worked_72 : decode cX3_worked 72 = .ok (.iload_n 2, 1) := by decide +kernel
theorem dX3_worked_73 : decode cX3_worked 73 = .ok (.iconst 2, 1) := by decide +kernel
theorem dX3_worked_74 : decode cX3_worked 74 = .ok (.if_icmp .ne 7, 3) := by decide +kernel
theorem dX3_worked_77 : decode cX3_worked 77 = .ok (.iconst 2, 1) := by decide +kernel
theorem dX3_worked_78 : decode cX3_worked 78 = .ok (.goto 13, 3) := by decide +kernel
theorem dX3_worked_81 : decode cX3_worked 81 = .ok (.iload_n 1, 1) := by decide +kernel
theorem dX3_worked_82 : decode cX3_worked 82 = .ok (.iload_n 2, 1) := by decide +kernel
theorem dX3_worked_83 : decode cX3_worked 83 = .ok (.if_icmp .eq 7, 3) := by decide +kernel
theorem dX3_worked_86 : decode cX3_worked 86 = .ok (.iconst 1, 1) := by decide +kernel
theorem dX3_worked_87 : decode cX3_worked 87 = .ok (.goto 4, 3) := by decide +kernel
theorem dX3_worked_90 : decode cX3_worked 90 = .ok (.iconst 0, 1) := by decide +kernel
theorem dX3_worked_91 : decode cX3_worked 91 = .ok (.ireturn, 1) := by decide +kernel
theorem dX3_worked_92 : decode cX3_worked 92 = .ok (.iload_n 1, 1) := by decide +kernel
theorem dX3_worked_93 : decode cX3_worked 93 = .ok (.iload_n 2, 1) := by decide +kernel
theorem dX3_worked_94 : decode cX3_worked 94 = .ok (.invokestatic 180, 3) := by decide +kernel
theorem dX3_worked_97 : decode cX3_worked 97 = .ok (.invokestatic 177, 3) := by decide +kernel
theorem dX3_worked_100 : decode cX3_worked 100 = .ok (.ireturn, 1) := by decide +kernel
theorem dX3_worked_101 : decode cX3_worked 101 = .ok (.iload_n 1, 1) := by decide +kernel
theorem dX3_worked_102 : decode cX3_worked 102 = .ok (.iload_n 2, 1) := by decide +kernel
theorem dX3_worked_103 : decode cX3_worked 103 = .ok (.invokestatic 184, 3) := by decide +kernel
theorem dX3_worked_106 : decode cX3_worked 106 = .ok (.invokestatic 177, 3) := by decide +kernel
theorem dX3_worked_109 : decode cX3_worked 109 = .ok (.ireturn, 1) := by decide +kernel
theorem dX3_worked_110 : decode cX3_worked 110 = .ok (.iload_n 1, 1) := by decide +kernel
theorem dX3_worked_111 : decode cX3_worked 111 = .ok (.iload_n 2, 1) := by decide +kernel
theorem dX3_worked_112 : decode cX3_worked 112 = .ok (.iload_n 3, 1) := by decide +kernel
theorem dX3_worked_113 : decode cX3_worked 113 = .ok (.invokestatic 187, 3) := by decide +kernel
theorem dX3_worked_116 : decode cX3_worked 116 = .ok (.ireturn, 1) := by decide +kernel
theorem dX3_worked_117 : decode cX3_worked 117 = .ok (.iconst 2, 1) := by decide +kernel
theorem dX3_worked_118 : decode cX3_worked 118 = .ok (.ireturn, 1) := by decide +kernel
theorem dX3_turned_0 : decode cX3_turned 0 = .ok (.iload_n 0, 1) := by decide +kernel
theorem dX3_turned_1 : decode cX3_turned 1 = .ok (.iconst 2, 1) := by decide +kernel
theorem dX3_turned_2 : decode cX3_turned 2 = .ok (.if_icmp .ne 7, 3) := by decide +kernel
theorem dX3_turned_5 : decode cX3_turned 5 = .ok (.iconst 2, 1) := by decide +kernel
theorem dX3_turned_6 : decode cX3_turned 6 = .ok (.goto 6, 3) := by decide +kernel
theorem dX3_turned_9 : decode cX3_turned 9 = .ok (.iconst 1, 1) := by decide +kernel
theorem dX3_turned_10 : decode cX3_turned 10 = .ok (.iload_n 0, 1) := by decide +kernel
theorem dX3_turned_11 : decode cX3_turned 11 = .ok (.isub, 1) := by decide +kernel
theorem dX3_turned_12 : decode cX3_turned 12 = .ok (.ireturn, 1) := by decide +kernel
theorem dX3_both_0 : decode cX3_both 0 = .ok (.iload_n 0, 1) := by decide +kernel
theorem dX3_both_1 : decode cX3_both 1 = .ok (.ifCond .eq 7, 3) := by decide +kernel
theorem dX3_both_4 : decode cX3_both 4 = .ok (.iload_n 1, 1) := by decide +kernel
theorem dX3_both_5 : decode cX3_both 5 = .ok (.ifCond .ne 7, 3) := by decide +kernel
theorem dX3_both_8 : decode cX3_both 8 = .ok (.iconst 0, 1) := by decide +kernel
theorem dX3_both_9 : decode cX3_both 9 = .ok (.goto 18, 3) := by decide +kernel
theorem dX3_both_12 : decode cX3_both 12 = .ok (.iload_n 0, 1) := by decide +kernel
theorem dX3_both_13 : decode cX3_both 13 = .ok (.iconst 1, 1) := by decide +kernel
theorem dX3_both_14 : decode cX3_both 14 = .ok (.if_icmp .ne 12, 3) := by decide +kernel
theorem dX3_both_17 : decode cX3_both 17 = .ok (.iload_n 1, 1) := by decide +kernel
theorem dX3_both_18 : decode cX3_both 18 = .ok (.iconst 1, 1) := by decide +kernel
theorem dX3_both_19 : decode cX3_both 19 = .ok (.if_icmp .ne 7, 3) := by decide +kernel
theorem dX3_both_22 : decode cX3_both 22 = .ok (.iconst 1, 1) := by decide +kernel
theorem dX3_both_23 : decode cX3_both 23 = .ok (.goto 4, 3) := by decide +kernel
theorem dX3_both_26 : decode cX3_both 26 = .ok (.iconst 2, 1) := by decide +kernel
theorem dX3_both_27 : decode cX3_both 27 = .ok (.ireturn, 1) := by decide +kernel
theorem dX3_either_0 : decode cX3_either 0 = .ok (.iload_n 0, 1) := by decide +kernel
theorem dX3_either_1 : decode cX3_either 1 = .ok (.iconst 1, 1) := by decide +kernel
theorem dX3_either_2 : decode cX3_either 2 = .ok (.if_icmp .eq 8, 3) := by decide +kernel
theorem dX3_either_5 : decode cX3_either 5 = .ok (.iload_n 1, 1) := by decide +kernel
theorem dX3_either_6 : decode cX3_either 6 = .ok (.iconst 1, 1) := by decide +kernel
theorem dX3_either_7 : decode cX3_either 7 = .ok (.if_icmp .ne 7, 3) := by decide +kernel
theorem dX3_either_10 : decode cX3_either 10 = .ok (.iconst 1, 1) := by decide +kernel
theorem dX3_either_11 : decode cX3_either 11 = .ok (.goto 16, 3) := by decide +kernel
theorem dX3_either_14 : decode cX3_either 14 = .ok (.iload_n 0, 1) := by decide +kernel
theorem dX3_either_15 : decode cX3_either 15 = .ok (.ifCond .ne 11, 3) := by decide +kernel
theorem dX3_either_18 : decode cX3_either 18 = .ok (.iload_n 1, 1) := by decide +kernel
theorem dX3_either_19 : decode cX3_either 19 = .ok (.ifCond .ne 7, 3) := by decide +kernel
theorem dX3_either_22 : decode cX3_either 22 = .ok (.iconst 0, 1) := by decide +kernel
theorem dX3_either_23 : decode cX3_either 23 = .ok (.goto 4, 3) := by decide +kernel
theorem dX3_either_26 : decode cX3_either 26 = .ok (.iconst 2, 1) := by decide +kernel
theorem dX3_either_27 : decode cX3_either 27 = .ok (.ireturn, 1) := by decide +kernel
theorem dX3_chosen_0 : decode cX3_chosen 0 = .ok (.iload_n 0, 1) := by decide +kernel
theorem dX3_chosen_1 : decode cX3_chosen 1 = .ok (.iconst 2, 1) := by decide +kernel
theorem dX3_chosen_2 : decode cX3_chosen 2 = .ok (.if_icmp .ne 14, 3) := by decide +kernel
theorem dX3_chosen_5 : decode cX3_chosen 5 = .ok (.iload_n 1, 1) := by decide +kernel
theorem dX3_chosen_6 : decode cX3_chosen 6 = .ok (.iload_n 2, 1) := by decide +kernel
theorem dX3_chosen_7 : decode cX3_chosen 7 = .ok (.if_icmp .ne 7, 3) := by decide +kernel
theorem dX3_chosen_10 : decode cX3_chosen 10 = .ok (.iload_n 1, 1) := by decide +kernel
theorem dX3_chosen_11 : decode cX3_chosen 11 = .ok (.goto 4, 3) := by decide +kernel
theorem dX3_chosen_14 : decode cX3_chosen 14 = .ok (.iconst 2, 1) := by decide +kernel
theorem dX3_chosen_15 : decode cX3_chosen 15 = .ok (.ireturn, 1) := by decide +kernel
theorem dX3_chosen_16 : decode cX3_chosen 16 = .ok (.iload_n 0, 1) := by decide +kernel
theorem dX3_chosen_17 : decode cX3_chosen 17 = .ok (.iconst 1, 1) := by decide +kernel
theorem dX3_chosen_18 : decode cX3_chosen 18 = .ok (.if_icmp .ne 7, 3) := by decide +kernel
theorem dX3_chosen_21 : decode cX3_chosen 21 = .ok (.iload_n 1, 1) := by decide +kernel
theorem dX3_chosen_22 : decode cX3_chosen 22 = .ok (.goto 4, 3) := by decide +kernel
theorem dX3_chosen_25 : decode cX3_chosen 25 = .ok (.iload_n 2, 1) := by decide +kernel
theorem dX3_chosen_26 : decode cX3_chosen 26 = .ok (.ireturn, 1) := by decide +kernel
theorem dX4_init_0 : decode cX4_init 0 = .ok (.aload_n 0, 1) := by decide +kernel
theorem dX4_init_1 : decode cX4_init 1 = .ok (.invokespecial 1, 3) := by decide +kernel
theorem dX4_init_4 : decode cX4_init 4 = .ok (.aload_n 0, 1) := by decide +kernel
theorem dX4_init_5 : decode cX4_init 5 = .ok (.new 7, 3) := by decide +kernel
theorem dX4_init_8 : decode cX4_init 8 = .ok (.dup, 1) := by decide +kernel
theorem dX4_init_9 : decode cX4_init 9 = .ok (.invokespecial 9, 3) := by decide +kernel
theorem dX4_init_12 : decode cX4_init 12 = .ok (.putfield 10, 3) := by decide +kernel
theorem dX4_init_15 : decode cX4_init 15 = .ok (.aload_n 0, 1) := by decide +kernel
theorem dX4_init_16 : decode cX4_init 16 = .ok (.new 16, 3) := by decide +kernel
theorem dX4_init_19 : decode cX4_init 19 = .ok (.dup, 1) := by decide +kernel
theorem dX4_init_20 : decode cX4_init 20 = .ok (.invokespecial 18, 3) := by decide +kernel
theorem dX4_init_23 : decode cX4_init 23 = .ok (.putfield 19, 3) := by decide +kernel
theorem dX4_init_26 : decode cX4_init 26 = .ok (.aload_n 0, 1) := by decide +kernel
theorem dX4_init_27 : decode cX4_init 27 = .ok (.new 23, 3) := by decide +kernel
theorem dX4_init_30 : decode cX4_init 30 = .ok (.dup, 1) := by decide +kernel
theorem dX4_init_31 : decode cX4_init 31 = .ok (.invokespecial 25, 3) := by decide +kernel
theorem dX4_init_34 : decode cX4_init 34 = .ok (.putfield 26, 3) := by decide +kernel
theorem dX4_init_37 : decode cX4_init 37 = .ok (.aload_n 0, 1) := by decide +kernel
theorem dX4_init_38 : decode cX4_init 38 = .ok (.new 23, 3) := by decide +kernel
theorem dX4_init_41 : decode cX4_init 41 = .ok (.dup, 1) := by decide +kernel
theorem dX4_init_42 : decode cX4_init 42 = .ok (.invokespecial 25, 3) := by decide +kernel
theorem dX4_init_45 : decode cX4_init 45 = .ok (.putfield 30, 3) := by decide +kernel
theorem dX4_init_48 : decode cX4_init 48 = .ok (.aload_n 0, 1) := by decide +kernel
theorem dX4_init_49 : decode cX4_init 49 = .ok (.new 33, 3) := by decide +kernel
theorem dX4_init_52 : decode cX4_init 52 = .ok (.dup, 1) := by decide +kernel
theorem dX4_init_53 : decode cX4_init 53 = .ok (.aload_n 0, 1) := by decide +kernel
theorem dX4_init_54 : decode cX4_init 54 = .ok (.getfield 10, 3) := by decide +kernel
theorem dX4_init_57 : decode cX4_init 57 = .ok (.invokespecial 35, 3) := by decide +kernel
theorem dX4_init_60 : decode cX4_init 60 = .ok (.putfield 38, 3) := by decide +kernel
theorem dX4_init_63 : decode cX4_init 63 = .ok (.aload_n 0, 1) := by decide +kernel
theorem dX4_init_64 : decode cX4_init 64 = .ok (.new 33, 3) := by decide +kernel
theorem dX4_init_67 : decode cX4_init 67 = .ok (.dup, 1) := by decide +kernel
theorem dX4_init_68 : decode cX4_init 68 = .ok (.aload_n 0, 1) := by decide +kernel
theorem dX4_init_69 : decode cX4_init 69 = .ok (.getfield 10, 3) := by decide +kernel
theorem dX4_init_72 : decode cX4_init 72 = .ok (.invokespecial 35, 3) := by decide +kernel
theorem dX4_init_75 : decode cX4_init 75 = .ok (.putfield 42, 3) := by decide +kernel
theorem dX4_init_78 : decode cX4_init 78 = .ok (.aload_n 0, 1) := by decide +kernel
theorem dX4_init_79 : decode cX4_init 79 = .ok (.iconst 0, 1) := by decide +kernel
theorem dX4_init_80 : decode cX4_init 80 = .ok (.putfield 45, 3) := by decide +kernel
theorem dX4_init_83 : decode cX4_init 83 = .ok (.return_, 1) := by decide +kernel
theorem dX4_input_0 : decode cX4_input 0 = .ok (.iload_n 1, 1) := by decide +kernel
theorem dX4_input_1 : decode cX4_input 1 = .ok (.invokestatic 49, 3) := by decide +kernel
theorem dX4_input_4 : decode cX4_input 4 = .ok (.aload_n 0, 1) := by decide +kernel
theorem dX4_input_5 : decode cX4_input 5 = .ok (.invokevirtual 53, 3) := by decide +kernel
theorem dX4_input_8 : decode cX4_input 8 = .ok (.aload_n 0, 1) := by decide +kernel
theorem dX4_input_9 : decode cX4_input 9 = .ok (.bipush 8, 2) := by decide +kernel
theorem dX4_input_11 : decode cX4_input 11 = .ok (.iload_n 1, 1) := by decide +kernel
theorem dX4_input_12 : decode cX4_input 12 = .ok (.iconst (-1), 1) := by decide +kernel
theorem dX4_input_13 : decode cX4_input 13 = .ok (.iconst (-1), 1) := by decide +kernel
theorem dX4_input_14 : decode cX4_input 14 = .ok (.iconst (-1), 1) := by decide +kernel
theorem dX4_input_15 : decode cX4_input 15 = .ok (.iconst 0, 1) := by decide +kernel
theorem dX4_input_16 : decode cX4_input 16 = .ok (.invokevirtual 56, 3) := by decide +kernel
theorem dX4_input_19 : decode cX4_input 19 = .ok (.ireturn, 1) := by decide +kernel
theorem dX4_gate_0 : decode cX4_gate 0 = .ok (.iload_n 1, 1) := by decide +kernel
theorem dX4_gate_1 : decode cX4_gate 1 = .ok (.ifCond .lt 9, 3) := by decide +kernel
theorem dX4_gate_4 : decode cX4_gate 4 = .ok (.iload_n 1, 1) := by decide +kernel
theorem dX4_gate_5 : decode cX4_gate 5 = .ok (.bipush 7, 2) := by decide +kernel
theorem dX4_gate_7 : decode cX4_gate 7 = .ok (.if_icmp .le 13, 3) := by decide +kernel
theorem dX4_gate_10 : decode cX4_gate 10 = .ok (.new 60, 3) := by decide +kernel
theorem dX4_gate_13 : decode cX4_gate 13 = .ok (.dup, 1) := by decide +kernel
theorem dX4_gate_14 : decode cX4_gate 14 = .ok (.ldc 62, 2) := by decide +kernel
theorem dX4_gate_16 : decode cX4_gate 16 = .ok (.invokespecial 64, 3) := by decide +kernel
theorem dX4_gate_19 : decode cX4_gate 19 = .ok (.athrow, 1) := by decide +kernel
theorem dX4_gate_20 : decode cX4_gate 20 = .ok (.iload 6, 2) := by decide +kernel
theorem dX4_gate_22 : decode cX4_gate 22 = .ok (.invokestatic 67, 3) := by decide +kernel
theorem dX4_gate_25 : decode cX4_gate 25 = .ok (.iload_n 1, 1) := by decide +kernel
theorem dX4_gate_26 : decode cX4_gate 26 = .ok (.iconst 2, 1) := by decide +kernel
theorem dX4_gate_27 : decode cX4_gate 27 = .ok (.if_icmp .lt 8, 3) := by decide +kernel
theorem dX4_gate_30 : decode cX4_gate 30 = .ok (.iload 4, 2) := by decide +kernel
theorem dX4_gate_32 : decode cX4_gate 32 = .ok (.goto 4, 3) := by decide +kernel
theorem dX4_gate_35 : decode cX4_gate 35 = .ok (.iload_n 3, 1) := by decide +kernel
theorem dX4_gate_36 : decode cX4_gate 36 = .ok (.istore 7, 2) := by decide +kernel
theorem dX4_gate_38 : decode cX4_gate 38 = .ok (.iload_n 1, 1) := by decide +kernel
theorem dX4_gate_39 : decode cX4_gate 39 = .ok (.bipush 7, 2) := by decide +kernel
theorem dX4_gate_41 : decode cX4_gate 41 = .ok (.if_icmp .ne 8, 3) := by decide +kernel
theorem dX4_gate_44 : decode cX4_gate 44 = .ok (.iload 5, 2) := by decide +kernel
theorem dX4_gate_46 : decode cX4_gate 46 = .ok (.goto 4, 3) := by decide +kernel
theorem dX4_gate_49 : decode cX4_gate 49 = .ok (.iload_n 3, 1) := by decide +kernel
theorem dX4_gate_50 : decode cX4_gate 50 = .ok (.istore 8, 2) := by decide +kernel
theorem dX4_gate_52 : decode cX4_gate 52 = .ok (.iload_n 2, 1) := by decide +kernel
theorem dX4_gate_53 : decode cX4_gate 53 = .ok (.invokestatic 49, 3) := by decide +kernel
theorem dX4_gate_56 : decode cX4_gate 56 = .ok (.iload_n 3, 1) := by decide +kernel
theorem dX4_gate_57 : decode cX4_gate 57 = .ok (.invokestatic 49, 3) := by decide +kernel
theorem dX4_gate_60 : decode cX4_gate 60 = .ok (.iload 7, 2) := by decide +kernel
theorem dX4_gate_62 : decode cX4_gate 62 = .ok (.invokestatic 49, 3) := by decide +kernel
theorem dX4_gate_65 : decode cX4_gate 65 = .ok (.iload 8, 2) := by decide +kernel
theorem dX4_gate_67 : decode cX4_gate 67 = .ok (.invokestatic 49, 3) := by decide +kernel
theorem dX4_gate_70 : decode cX4_gate 70 = .ok (.aload_n 0, 1) := by decide +kernel
theorem dX4_gate_71 : decode cX4_gate 71 = .ok (.invokevirtual 53, 3) := by decide +kernel
theorem dX4_gate_74 : decode cX4_gate 74 = .ok (.aload_n 0, 1) := by decide +kernel
theorem dX4_gate_75 : decode cX4_gate 75 = .ok (.iload_n 1, 1) := by decide +kernel
theorem dX4_gate_76 : decode cX4_gate 76 = .ok (.iload_n 2, 1) := by decide +kernel
theorem dX4_gate_77 : decode cX4_gate 77 = .ok (.iload_n 3, 1) := by decide +kernel
theorem dX4_gate_78 : decode cX4_gate 78 = .ok (.iload 7, 2) := by decide +kernel
theorem dX4_gate_80 : decode cX4_gate 80 = .ok (.iload 8, 2) := by decide +kernel
theorem dX4_gate_82 : decode cX4_gate 82 = .ok (.iload 6, 2) := by decide +kernel
theorem dX4_gate_84 : decode cX4_gate 84 = .ok (.invokevirtual 56, 3) := by decide +kernel
theorem dX4_gate_87 : decode cX4_gate 87 = .ok (.ireturn, 1) := by decide +kernel
theorem dX4_register_0 : decode cX4_register 0 = .ok (.iload_n 1, 1) := by decide +kernel
theorem dX4_register_1 : decode cX4_register 1 = .ok (.invokestatic 49, 3) := by decide +kernel
theorem dX4_register_4 : decode cX4_register 4 = .ok (.iload_n 2, 1) := by decide +kernel
theorem dX4_register_5 : decode cX4_register 5 = .ok (.invokestatic 49, 3) := by decide +kernel
theorem dX4_register_8 : decode cX4_register 8 = .ok (.iload_n 3, 1) := by decide +kernel
theorem dX4_register_9 : decode cX4_register 9 = .ok (.invokestatic 49, 3) := by decide +kernel
theorem dX4_register_12 : decode cX4_register 12 = .ok (.iload 4, 2) := by decide +kernel
theorem dX4_register_14 : decode cX4_register 14 = .ok (.iconst (-1), 1) := by decide +kernel
theorem dX4_register_15 : decode cX4_register 15 = .ok (.if_icmp .eq 8, 3) := by decide +kernel
theorem dX4_register_18 : decode cX4_register 18 = .ok (.iload 4, 2) := by decide +kernel
theorem dX4_register_20 : decode cX4_register 20 = .ok (.invokestatic 49, 3) := by decide +kernel
theorem dX4_register_23 : decode cX4_register 23 = .ok (.iload 5, 2) := by decide +kernel
theorem dX4_register_25 : decode cX4_register 25 = .ok (.invokestatic 67, 3) := by decide +kernel
theorem dX4_register_28 : decode cX4_register 28 = .ok (.aload_n 0, 1) := by decide +kernel
theorem dX4_register_29 : decode cX4_register 29 = .ok (.invokevirtual 53, 3) := by decide +kernel
theorem dX4_register_32 : decode cX4_register 32 = .ok (.aload_n 0, 1) := by decide +kernel
theorem dX4_register_33 : decode cX4_register 33 = .ok (.bipush 9, 2) := by decide +kernel
theorem dX4_register_35 : decode cX4_register 35 = .ok (.iload_n 1, 1) := by decide +kernel
theorem dX4_register_36 : decode cX4_register 36 = .ok (.iload_n 2, 1) := by decide +kernel
theorem dX4_register_37 : decode cX4_register 37 = .ok (.iload_n 3, 1) := by decide +kernel
theorem dX4_register_38 : decode cX4_register 38 = .ok (.iload 4, 2) := by decide +kernel
theorem dX4_register_40 : decode cX4_register 40 = .ok (.iload 5, 2) := by decide +kernel
theorem dX4_register_42 : decode cX4_register 42 = .ok (.invokevirtual 56, 3) := by decide +kernel
theorem dX4_register_45 : decode cX4_register 45 = .ok (.ireturn, 1) := by decide +kernel
theorem dX4_lines_0 : decode cX4_lines 0 = .ok (.aload_n 0, 1) := by decide +kernel
theorem dX4_lines_1 : decode cX4_lines 1 = .ok (.getfield 10, 3) := by decide +kernel
theorem dX4_lines_4 : decode cX4_lines 4 = .ok (.getfield 101, 3) := by decide +kernel
theorem dX4_lines_7 : decode cX4_lines 7 = .ok (.ireturn, 1) := by decide +kernel
theorem dX4_flaws_0 : decode cX4_flaws 0 = .ok (.aload_n 0, 1) := by decide +kernel
theorem dX4_flaws_1 : decode cX4_flaws 1 = .ok (.getfield 19, 3) := by decide +kernel
theorem dX4_flaws_4 : decode cX4_flaws 4 = .ok (.getfield 105, 3) := by decide +kernel
theorem dX4_flaws_7 : decode cX4_flaws 7 = .ok (.ireturn, 1) := by decide +kernel
theorem dX4_ofFlaw_0 : decode cX4_ofFlaw 0 = .ok (.iload_n 1, 1) := by decide +kernel
theorem dX4_ofFlaw_1 : decode cX4_ofFlaw 1 = .ok (.ifCond .lt 14, 3) := by decide +kernel
theorem dX4_ofFlaw_4 : decode cX4_ofFlaw 4 = .ok (.iload_n 1, 1) := by decide +kernel
theorem dX4_ofFlaw_5 : decode cX4_ofFlaw 5 = .ok (.aload_n 0, 1) := by decide +kernel
theorem dX4_ofFlaw_6 : decode cX4_ofFlaw 6 = .ok (.getfield 19, 3) := by decide +kernel
theorem dX4_ofFlaw_9 : decode cX4_ofFlaw 9 = .ok (.getfield 105, 3) := by decide +kernel
theorem dX4_ofFlaw_12 : decode cX4_ofFlaw 12 = .ok (.if_icmp .lt 13, 3) := by decide +kernel
theorem dX4_ofFlaw_15 : decode cX4_ofFlaw 15 = .ok (.new 106, 3) := by decide +kernel
theorem dX4_ofFlaw_18 : decode cX4_ofFlaw 18 = .ok (.dup, 1) := by decide +kernel
theorem dX4_ofFlaw_19 : decode cX4_ofFlaw 19 = .ok (.ldc 108, 2) := by decide +kernel
theorem dX4_ofFlaw_21 : decode cX4_ofFlaw 21 = .ok (.invokespecial 110, 3) := by decide +kernel
theorem dX4_ofFlaw_24 : decode cX4_ofFlaw 24 = .ok (.athrow, 1) := by decide +kernel
theorem dX4_ofFlaw_25 : decode cX4_ofFlaw 25 = .ok (.iload_n 2, 1) := by decide +kernel
theorem dX4_ofFlaw_26 : decode cX4_ofFlaw 26 = .ok (.ifCond .ne 13, 3) := by decide +kernel
theorem dX4_ofFlaw_29 : decode cX4_ofFlaw 29 = .ok (.aload_n 0, 1) := by decide +kernel
theorem dX4_ofFlaw_30 : decode cX4_ofFlaw 30 = .ok (.getfield 19, 3) := by decide +kernel
theorem dX4_ofFlaw_33 : decode cX4_ofFlaw 33 = .ok (.getfield 111, 3) := by decide +kernel
theorem dX4_ofFlaw_36 : decode cX4_ofFlaw 36 = .ok (.iload_n 1, 1) := by decide +kernel
theorem dX4_ofFlaw_37 : decode cX4_ofFlaw 37 = .ok (.iaload, 1) := by decide +kernel
theorem dX4_ofFlaw_38 : decode cX4_ofFlaw 38 = .ok (.ireturn, 1) := by decide +kernel
theorem dX4_ofFlaw_39 : decode cX4_ofFlaw 39 = .ok (.iload_n 2, 1) := by decide +kernel
theorem dX4_ofFlaw_40 : decode cX4_ofFlaw 40 = .ok (.iconst 1, 1) := by decide +kernel
theorem dX4_ofFlaw_41 : decode cX4_ofFlaw 41 = .ok (.if_icmp .ne 13, 3) := by decide +kernel
theorem dX4_ofFlaw_44 : decode cX4_ofFlaw 44 = .ok (.aload_n 0, 1) := by decide +kernel
theorem dX4_ofFlaw_45 : decode cX4_ofFlaw 45 = .ok (.getfield 19, 3) := by decide +kernel
theorem dX4_ofFlaw_48 : decode cX4_ofFlaw 48 = .ok (.getfield 114, 3) := by decide +kernel
theorem dX4_ofFlaw_51 : decode cX4_ofFlaw 51 = .ok (.iload_n 1, 1) := by decide +kernel
theorem dX4_ofFlaw_52 : decode cX4_ofFlaw 52 = .ok (.iaload, 1) := by decide +kernel
theorem dX4_ofFlaw_53 : decode cX4_ofFlaw 53 = .ok (.ireturn, 1) := by decide +kernel
theorem dX4_ofFlaw_54 : decode cX4_ofFlaw 54 = .ok (.new 60, 3) := by decide +kernel
theorem dX4_ofFlaw_57 : decode cX4_ofFlaw 57 = .ok (.dup, 1) := by decide +kernel
theorem dX4_ofFlaw_58 : decode cX4_ofFlaw 58 = .ok (.ldc 117, 2) := by decide +kernel
theorem dX4_ofFlaw_60 : decode cX4_ofFlaw 60 = .ok (.invokespecial 64, 3) := by decide +kernel
theorem dX4_ofFlaw_63 : decode cX4_ofFlaw 63 = .ok (.athrow, 1) := by decide +kernel
theorem dX4_arrival_0 : decode cX4_arrival 0 = .ok (.iload_n 1, 1) := by decide +kernel
theorem dX4_arrival_1 : decode cX4_arrival 1 = .ok (.invokestatic 49, 3) := by decide +kernel
theorem dX4_arrival_4 : decode cX4_arrival 4 = .ok (.aload_n 0, 1) := by decide +kernel
theorem dX4_arrival_5 : decode cX4_arrival 5 = .ok (.getfield 26, 3) := by decide +kernel
theorem dX4_arrival_8 : decode cX4_arrival 8 = .ok (.getfield 119, 3) := by decide +kernel
theorem dX4_arrival_11 : decode cX4_arrival 11 = .ok (.iload_n 1, 1) := by decide +kernel
theorem dX4_arrival_12 : decode cX4_arrival 12 = .ok (.iaload, 1) := by decide +kernel
theorem dX4_arrival_13 : decode cX4_arrival 13 = .ok (.ireturn, 1) := by decide +kernel
theorem dX4_longest_0 : decode cX4_longest 0 = .ok (.aload_n 0, 1) := by decide +kernel
theorem dX4_longest_1 : decode cX4_longest 1 = .ok (.getfield 26, 3) := by decide +kernel
theorem dX4_longest_4 : decode cX4_longest 4 = .ok (.invokevirtual 122, 3) := by decide +kernel
theorem dX4_longest_7 : decode cX4_longest 7 = .ok (.ireturn, 1) := by decide +kernel
theorem dX4_way_0 : decode cX4_way 0 = .ok (.iload_n 1, 1) := by decide +kernel
theorem dX4_way_1 : decode cX4_way 1 = .ok (.ifCond .lt 9, 3) := by decide +kernel
theorem dX4_way_4 : decode cX4_way 4 = .ok (.iload_n 1, 1) := by decide +kernel
theorem dX4_way_5 : decode cX4_way 5 = .ok (.bipush 24, 2) := by decide +kernel
theorem dX4_way_7 : decode cX4_way 7 = .ok (.if_icmp .lt 5, 3) := by decide +kernel
theorem dX4_way_10 : decode cX4_way 10 = .ok (.iconst (-1), 1) := by decide +kernel
theorem dX4_way_11 : decode cX4_way 11 = .ok (.ireturn, 1) := by decide +kernel
theorem dX4_way_12 : decode cX4_way 12 = .ok (.aload_n 0, 1) := by decide +kernel
theorem dX4_way_13 : decode cX4_way 13 = .ok (.getfield 26, 3) := by decide +kernel
theorem dX4_way_16 : decode cX4_way 16 = .ok (.aload_n 0, 1) := by decide +kernel
theorem dX4_way_17 : decode cX4_way 17 = .ok (.getfield 10, 3) := by decide +kernel
theorem dX4_way_20 : decode cX4_way 20 = .ok (.invokevirtual 126, 3) := by decide +kernel
theorem dX4_way_23 : decode cX4_way 23 = .ok (.istore_n 2, 1) := by decide +kernel
theorem dX4_way_24 : decode cX4_way 24 = .ok (.iconst 0, 1) := by decide +kernel
theorem dX4_way_25 : decode cX4_way 25 = .ok (.istore_n 3, 1) := by decide +kernel
theorem dX4_way_26 : decode cX4_way 26 = .ok (.iload_n 3, 1) := by decide +kernel
theorem dX4_way_27 : decode cX4_way 27 = .ok (.iload_n 1, 1) := by decide +kernel
theorem dX4_way_28 : decode cX4_way 28 = .ok (.if_icmp .ge 27, 3) := by decide +kernel
theorem dX4_way_31 : decode cX4_way 31 = .ok (.iload_n 2, 1) := by decide +kernel
theorem dX4_way_32 : decode cX4_way 32 = .ok (.iconst (-1), 1) := by decide +kernel
theorem dX4_way_33 : decode cX4_way 33 = .ok (.if_icmp .eq 22, 3) := by decide +kernel
theorem dX4_way_36 : decode cX4_way 36 = .ok (.aload_n 0, 1) := by decide +kernel
theorem dX4_way_37 : decode cX4_way 37 = .ok (.getfield 26, 3) := by decide +kernel
theorem dX4_way_40 : decode cX4_way 40 = .ok (.aload_n 0, 1) := by decide +kernel
theorem dX4_way_41 : decode cX4_way 41 = .ok (.getfield 10, 3) := by decide +kernel
theorem dX4_way_44 : decode cX4_way 44 = .ok (.iload_n 2, 1) := by decide +kernel
theorem dX4_way_45 : decode cX4_way 45 = .ok (.invokevirtual 130, 3) := by decide +kernel
theorem dX4_way_48 : decode cX4_way 48 = .ok (.istore_n 2, 1) := by decide +kernel
theorem dX4_way_49 : decode cX4_way 49 = .ok (.iinc 3 1, 3) := by decide +kernel
theorem dX4_way_52 : decode cX4_way 52 = .ok (.goto (-26), 3) := by decide +kernel
theorem dX4_way_55 : decode cX4_way 55 = .ok (.iload_n 2, 1) := by decide +kernel
theorem dX4_way_56 : decode cX4_way 56 = .ok (.ireturn, 1) := by decide +kernel
theorem dX4_users_0 : decode cX4_users 0 = .ok (.iload_n 1, 1) := by decide +kernel
theorem dX4_users_1 : decode cX4_users 1 = .ok (.invokestatic 49, 3) := by decide +kernel
theorem dX4_users_4 : decode cX4_users 4 = .ok (.aload_n 0, 1) := by decide +kernel
theorem dX4_users_5 : decode cX4_users 5 = .ok (.getfield 10, 3) := by decide +kernel
theorem dX4_users_8 : decode cX4_users 8 = .ok (.getfield 134, 3) := by decide +kernel
theorem dX4_users_11 : decode cX4_users 11 = .ok (.iload_n 1, 1) := by decide +kernel
theorem dX4_users_12 : decode cX4_users 12 = .ok (.iaload, 1) := by decide +kernel
theorem dX4_users_13 : decode cX4_users 13 = .ok (.invokestatic 137, 3) := by decide +kernel
theorem dX4_users_16 : decode cX4_users 16 = .ok (.ireturn, 1) := by decide +kernel
theorem dX4_start_0 : decode cX4_start 0 = .ok (.aload_n 0, 1) := by decide +kernel
theorem dX4_start_1 : decode cX4_start 1 = .ok (.getfield 19, 3) := by decide +kernel
theorem dX4_start_4 : decode cX4_start 4 = .ok (.getfield 143, 3) := by decide +kernel
theorem dX4_start_7 : decode cX4_start 7 = .ok (.ifCond .eq 13, 3) := by decide +kernel
theorem dX4_start_10 : decode cX4_start 10 = .ok (.new 146, 3) := by decide +kernel
theorem dX4_start_13 : decode cX4_start 13 = .ok (.dup, 1) := by decide +kernel
theorem dX4_start_14 : decode cX4_start 14 = .ok (.ldc 148, 2) := by decide +kernel
theorem dX4_start_16 : decode cX4_start 16 = .ok (.invokespecial 150, 3) := by decide +kernel
theorem dX4_start_19 : decode cX4_start 19 = .ok (.athrow, 1) := by decide +kernel
theorem dX4_start_20 : decode cX4_start 20 = .ok (.aload_n 0, 1) := by decide +kernel
theorem dX4_start_21 : decode cX4_start 21 = .ok (.iconst 1, 1) := by decide +kernel
theorem dX4_start_22 : decode cX4_start 22 = .ok (.putfield 45, 3) := by decide +kernel
theorem dX4_start_25 : decode cX4_start 25 = .ok (.aload_n 0, 1) := by decide +kernel
theorem dX4_start_26 : decode cX4_start 26 = .ok (.getfield 38, 3) := by decide +kernel
theorem dX4_start_29 : decode cX4_start 29 = .ok (.invokevirtual 151, 3) := by decide +kernel
theorem dX4_start_32 : decode cX4_start 32 = .ok (.aload_n 0, 1) := by decide +kernel
theorem dX4_start_33 : decode cX4_start 33 = .ok (.getfield 38, 3) := by decide +kernel
theorem dX4_start_36 : decode cX4_start 36 = .ok (.invokevirtual 154, 3) := by decide +kernel
theorem dX4_start_39 : decode cX4_start 39 = .ok (.ireturn, 1) := by decide +kernel
theorem dX4_set_0 : decode cX4_set 0 = .ok (.aload_n 0, 1) := by decide +kernel
theorem dX4_set_1 : decode cX4_set 1 = .ok (.invokevirtual 157, 3) := by decide +kernel
theorem dX4_set_4 : decode cX4_set 4 = .ok (.iload_n 1, 1) := by decide +kernel
theorem dX4_set_5 : decode cX4_set 5 = .ok (.invokestatic 49, 3) := by decide +kernel
theorem dX4_set_8 : decode cX4_set 8 = .ok (.aload_n 0, 1) := by decide +kernel
theorem dX4_set_9 : decode cX4_set 9 = .ok (.iload_n 1, 1) := by decide +kernel
theorem dX4_set_10 : decode cX4_set 10 = .ok (.iload_n 2, 1) := by decide +kernel
theorem dX4_set_11 : decode cX4_set 11 = .ok (.invokevirtual 160, 3) := by decide +kernel
theorem dX4_set_14 : decode cX4_set 14 = .ok (.aload_n 0, 1) := by decide +kernel
theorem dX4_set_15 : decode cX4_set 15 = .ok (.getfield 38, 3) := by decide +kernel
theorem dX4_set_18 : decode cX4_set 18 = .ok (.getfield 164, 3) := by decide +kernel
theorem dX4_set_21 : decode cX4_set 21 = .ok (.iload_n 1, 1) := by decide +kernel
theorem dX4_set_22 : decode cX4_set 22 = .ok (.iaload, 1) := by decide +kernel
theorem dX4_set_23 : decode cX4_set 23 = .ok (.istore_n 3, 1) := by decide +kernel
theorem dX4_set_24 : decode cX4_set 24 = .ok (.aload_n 0, 1) := by decide +kernel
theorem dX4_set_25 : decode cX4_set 25 = .ok (.getfield 38, 3) := by decide +kernel
theorem dX4_set_28 : decode cX4_set 28 = .ok (.iload_n 1, 1) := by decide +kernel
theorem dX4_set_29 : decode cX4_set 29 = .ok (.iload_n 2, 1) := by decide +kernel
theorem dX4_set_30 : decode cX4_set 30 = .ok (.invokevirtual 167, 3) := by decide +kernel
theorem dX4_set_33 : decode cX4_set 33 = .ok (.iload_n 3, 1) := by decide +kernel
theorem dX4_set_34 : decode cX4_set 34 = .ok (.ireturn, 1) := by decide +kernel
theorem dX4_pass_0 : decode cX4_pass 0 = .ok (.aload_n 0, 1) := by decide +kernel
theorem dX4_pass_1 : decode cX4_pass 1 = .ok (.invokevirtual 157, 3) := by decide +kernel
theorem dX4_pass_4 : decode cX4_pass 4 = .ok (.iload_n 1, 1) := by decide +kernel
theorem dX4_pass_5 : decode cX4_pass 5 = .ok (.bipush 100, 2) := by decide +kernel
theorem dX4_pass_7 : decode cX4_pass 7 = .ok (.invokestatic 79, 3) := by decide +kernel
theorem dX4_pass_10 : decode cX4_pass 10 = .ok (.ifCond .ne 13, 3) := by decide +kernel
theorem dX4_pass_13 : decode cX4_pass 13 = .ok (.new 60, 3) := by decide +kernel
theorem dX4_pass_16 : decode cX4_pass 16 = .ok (.dup, 1) := by decide +kernel
theorem dX4_pass_17 : decode cX4_pass 17 = .ok (.ldc 170, 2) := by decide +kernel
theorem dX4_pass_19 : decode cX4_pass 19 = .ok (.invokespecial 64, 3) := by decide +kernel
theorem dX4_pass_22 : decode cX4_pass 22 = .ok (.athrow, 1) := by decide +kernel
theorem dX4_pass_23 : decode cX4_pass 23 = .ok (.aload_n 0, 1) := by decide +kernel
theorem dX4_pass_24 : decode cX4_pass 24 = .ok (.getfield 38, 3) := by decide +kernel
theorem dX4_pass_27 : decode cX4_pass 27 = .ok (.getfield 172, 3) := by decide +kernel
theorem dX4_pass_30 : decode cX4_pass 30 = .ok (.iload_n 1, 1) := by decide +kernel
theorem dX4_pass_31 : decode cX4_pass 31 = .ok (.iadd, 1) := by decide +kernel
theorem dX4_pass_32 : decode cX4_pass 32 = .ok (.istore_n 2, 1) := by decide +kernel
theorem dX4_pass_33 : decode cX4_pass 33 = .ok (.aload_n 0, 1) := by decide +kernel
theorem dX4_pass_34 : decode cX4_pass 34 = .ok (.getfield 38, 3) := by decide +kernel
theorem dX4_pass_37 : decode cX4_pass 37 = .ok (.iload_n 2, 1) := by decide +kernel
theorem dX4_pass_38 : decode cX4_pass 38 = .ok (.invokevirtual 175, 3) := by decide +kernel
theorem dX4_pass_41 : decode cX4_pass 41 = .ok (.istore_n 3, 1) := by decide +kernel
theorem dX4_pass_42 : decode cX4_pass 42 = .ok (.aload_n 0, 1) := by decide +kernel
theorem dX4_pass_43 : decode cX4_pass 43 = .ok (.getfield 38, 3) := by decide +kernel
theorem dX4_pass_46 : decode cX4_pass 46 = .ok (.iload_n 2, 1) := by decide +kernel
theorem dX4_pass_47 : decode cX4_pass 47 = .ok (.putfield 172, 3) := by decide +kernel
theorem dX4_pass_50 : decode cX4_pass 50 = .ok (.iload_n 3, 1) := by decide +kernel
theorem dX4_pass_51 : decode cX4_pass 51 = .ok (.ireturn, 1) := by decide +kernel
theorem dX4_settle_0 : decode cX4_settle 0 = .ok (.aload_n 0, 1) := by decide +kernel
theorem dX4_settle_1 : decode cX4_settle 1 = .ok (.invokevirtual 157, 3) := by decide +kernel
theorem dX4_settle_4 : decode cX4_settle 4 = .ok (.aload_n 0, 1) := by decide +kernel
theorem dX4_settle_5 : decode cX4_settle 5 = .ok (.getfield 38, 3) := by decide +kernel
theorem dX4_settle_8 : decode cX4_settle 8 = .ok (.invokevirtual 178, 3) := by decide +kernel
theorem dX4_settle_11 : decode cX4_settle 11 = .ok (.ireturn, 1) := by decide +kernel
theorem dX4_isRunning_0 : decode cX4_isRunning 0 = .ok (.aload_n 0, 1) := by decide +kernel
theorem dX4_isRunning_1 : decode cX4_isRunning 1 = .ok (.getfield 45, 3) := by decide +kernel
theorem dX4_isRunning_4 : decode cX4_isRunning 4 = .ok (.ireturn, 1) := by decide +kernel
theorem dX4_told_0 : decode cX4_told 0 = .ok (.iload_n 1, 1) := by decide +kernel
theorem dX4_told_1 : decode cX4_told 1 = .ok (.tableswitch 87 0 5 #[39, 47, 55, 63, 71, 79], 39) := by decide +kernel
theorem dX4_told_40 : decode cX4_told 40 = .ok (.aload_n 0, 1) := by decide +kernel
theorem dX4_told_41 : decode cX4_told 41 = .ok (.getfield 38, 3) := by decide +kernel
theorem dX4_told_44 : decode cX4_told 44 = .ok (.getfield 172, 3) := by decide +kernel
theorem dX4_told_47 : decode cX4_told 47 = .ok (.ireturn, 1) := by decide +kernel
theorem dX4_told_48 : decode cX4_told 48 = .ok (.aload_n 0, 1) := by decide +kernel
theorem dX4_told_49 : decode cX4_told 49 = .ok (.getfield 38, 3) := by decide +kernel
theorem dX4_told_52 : decode cX4_told 52 = .ok (.invokevirtual 154, 3) := by decide +kernel
theorem dX4_told_55 : decode cX4_told 55 = .ok (.ireturn, 1) := by decide +kernel
theorem dX4_told_56 : decode cX4_told 56 = .ok (.aload_n 0, 1) := by decide +kernel
theorem dX4_told_57 : decode cX4_told 57 = .ok (.getfield 38, 3) := by decide +kernel
theorem dX4_told_60 : decode cX4_told 60 = .ok (.invokevirtual 181, 3) := by decide +kernel
theorem dX4_told_63 : decode cX4_told 63 = .ok (.ireturn, 1) := by decide +kernel
theorem dX4_told_64 : decode cX4_told 64 = .ok (.aload_n 0, 1) := by decide +kernel
theorem dX4_told_65 : decode cX4_told 65 = .ok (.getfield 38, 3) := by decide +kernel
theorem dX4_told_68 : decode cX4_told 68 = .ok (.getfield 184, 3) := by decide +kernel
theorem dX4_told_71 : decode cX4_told 71 = .ok (.ireturn, 1) := by decide +kernel
theorem dX4_told_72 : decode cX4_told 72 = .ok (.aload_n 0, 1) := by decide +kernel
theorem dX4_told_73 : decode cX4_told 73 = .ok (.getfield 38, 3) := by decide +kernel
theorem dX4_told_76 : decode cX4_told 76 = .ok (.getfield 187, 3) := by decide +kernel
theorem dX4_told_79 : decode cX4_told 79 = .ok (.ireturn, 1) := by decide +kernel
theorem dX4_told_80 : decode cX4_told 80 = .ok (.aload_n 0, 1) := by decide +kernel
theorem dX4_told_81 : decode cX4_told 81 = .ok (.getfield 38, 3) := by decide +kernel
theorem dX4_told_84 : decode cX4_told 84 = .ok (.getfield 190, 3) := by decide +kernel
theorem dX4_told_87 : decode cX4_told 87 = .ok (.ireturn, 1) := by decide +kernel
theorem dX4_told_88 : decode cX4_told 88 = .ok (.new 60, 3) := by decide +kernel
theorem dX4_told_91 : decode cX4_told 91 = .ok (.dup, 1) := by decide +kernel
theorem dX4_told_92 : decode cX4_told 92 = .ok (.ldc 193, 2) := by decide +kernel
theorem dX4_told_94 : decode cX4_told 94 = .ok (.invokespecial 64, 3) := by decide +kernel
theorem dX4_told_97 : decode cX4_told 97 = .ok (.athrow, 1) := by decide +kernel
theorem dX4_ofWire_0 : decode cX4_ofWire 0 = .ok (.iload_n 1, 1) := by decide +kernel
theorem dX4_ofWire_1 : decode cX4_ofWire 1 = .ok (.invokestatic 49, 3) := by decide +kernel
theorem dX4_ofWire_4 : decode cX4_ofWire 4 = .ok (.iload_n 2, 1) := by decide +kernel
theorem dX4_ofWire_5 : decode cX4_ofWire 5 = .ok (.tableswitch 71 0 3 #[31, 41, 51, 61], 31) := by decide +kernel
theorem dX4_ofWire_36 : decode cX4_ofWire 36 = .ok (.aload_n 0, 1) := by decide +kernel
theorem dX4_ofWire_37 : decode cX4_ofWire 37 = .ok (.getfield 38, 3) := by decide +kernel
theorem dX4_ofWire_40 : decode cX4_ofWire 40 = .ok (.getfield 164, 3) := by decide +kernel
theorem dX4_ofWire_43 : decode cX4_ofWire 43 = .ok (.iload_n 1, 1) := by decide +kernel
theorem dX4_ofWire_44 : decode cX4_ofWire 44 = .ok (.iaload, 1) := by decide +kernel
theorem dX4_ofWire_45 : decode cX4_ofWire 45 = .ok (.ireturn, 1) := by decide +kernel
theorem dX4_ofWire_46 : decode cX4_ofWire 46 = .ok (.aload_n 0, 1) := by decide +kernel
theorem dX4_ofWire_47 : decode cX4_ofWire 47 = .ok (.getfield 38, 3) := by decide +kernel
theorem dX4_ofWire_50 : decode cX4_ofWire 50 = .ok (.getfield 195, 3) := by decide +kernel
theorem dX4_ofWire_53 : decode cX4_ofWire 53 = .ok (.iload_n 1, 1) := by decide +kernel
theorem dX4_ofWire_54 : decode cX4_ofWire 54 = .ok (.iaload, 1) := by decide +kernel
theorem dX4_ofWire_55 : decode cX4_ofWire 55 = .ok (.ireturn, 1) := by decide +kernel
theorem dX4_ofWire_56 : decode cX4_ofWire 56 = .ok (.aload_n 0, 1) := by decide +kernel
theorem dX4_ofWire_57 : decode cX4_ofWire 57 = .ok (.getfield 38, 3) := by decide +kernel
theorem dX4_ofWire_60 : decode cX4_ofWire 60 = .ok (.getfield 198, 3) := by decide +kernel
theorem dX4_ofWire_63 : decode cX4_ofWire 63 = .ok (.iload_n 1, 1) := by decide +kernel
theorem dX4_ofWire_64 : decode cX4_ofWire 64 = .ok (.iaload, 1) := by decide +kernel
theorem dX4_ofWire_65 : decode cX4_ofWire 65 = .ok (.ireturn, 1) := by decide +kernel
theorem dX4_ofWire_66 : decode cX4_ofWire 66 = .ok (.aload_n 0, 1) := by decide +kernel
theorem dX4_ofWire_67 : decode cX4_ofWire 67 = .ok (.getfield 38, 3) := by decide +kernel
theorem dX4_ofWire_70 : decode cX4_ofWire 70 = .ok (.getfield 201, 3) := by decide +kernel
theorem dX4_ofWire_73 : decode cX4_ofWire 73 = .ok (.iload_n 1, 1) := by decide +kernel
theorem dX4_ofWire_74 : decode cX4_ofWire 74 = .ok (.iaload, 1) := by decide +kernel
theorem dX4_ofWire_75 : decode cX4_ofWire 75 = .ok (.ireturn, 1) := by decide +kernel
theorem dX4_ofWire_76 : decode cX4_ofWire 76 = .ok (.new 60, 3) := by decide +kernel
theorem dX4_ofWire_79 : decode cX4_ofWire 79 = .ok (.dup, 1) := by decide +kernel
theorem dX4_ofWire_80 : decode cX4_ofWire 80 = .ok (.ldc 204, 2) := by decide +kernel
theorem dX4_ofWire_82 : decode cX4_ofWire 82 = .ok (.invokespecial 64, 3) := by decide +kernel
theorem dX4_ofWire_85 : decode cX4_ofWire 85 = .ok (.athrow, 1) := by decide +kernel
theorem dX4_pending_0 : decode cX4_pending 0 = .ok (.aload_n 0, 1) := by decide +kernel
theorem dX4_pending_1 : decode cX4_pending 1 = .ok (.iload_n 1, 1) := by decide +kernel
theorem dX4_pending_2 : decode cX4_pending 2 = .ok (.invokevirtual 70, 3) := by decide +kernel
theorem dX4_pending_5 : decode cX4_pending 5 = .ok (.aload_n 0, 1) := by decide +kernel
theorem dX4_pending_6 : decode cX4_pending 6 = .ok (.getfield 38, 3) := by decide +kernel
theorem dX4_pending_9 : decode cX4_pending 9 = .ok (.getfield 206, 3) := by decide +kernel
theorem dX4_pending_12 : decode cX4_pending 12 = .ok (.iload_n 1, 1) := by decide +kernel
theorem dX4_pending_13 : decode cX4_pending 13 = .ok (.iaload, 1) := by decide +kernel
theorem dX4_pending_14 : decode cX4_pending 14 = .ok (.ireturn, 1) := by decide +kernel
theorem dX4_hazards_0 : decode cX4_hazards 0 = .ok (.aload_n 0, 1) := by decide +kernel
theorem dX4_hazards_1 : decode cX4_hazards 1 = .ok (.getfield 38, 3) := by decide +kernel
theorem dX4_hazards_4 : decode cX4_hazards 4 = .ok (.getfield 209, 3) := by decide +kernel
theorem dX4_hazards_7 : decode cX4_hazards 7 = .ok (.ireturn, 1) := by decide +kernel
theorem dX4_ofHazard_0 : decode cX4_ofHazard 0 = .ok (.iload_n 1, 1) := by decide +kernel
theorem dX4_ofHazard_1 : decode cX4_ofHazard 1 = .ok (.ifCond .lt 14, 3) := by decide +kernel
theorem dX4_ofHazard_4 : decode cX4_ofHazard 4 = .ok (.iload_n 1, 1) := by decide +kernel
theorem dX4_ofHazard_5 : decode cX4_ofHazard 5 = .ok (.aload_n 0, 1) := by decide +kernel
theorem dX4_ofHazard_6 : decode cX4_ofHazard 6 = .ok (.getfield 38, 3) := by decide +kernel
theorem dX4_ofHazard_9 : decode cX4_ofHazard 9 = .ok (.getfield 209, 3) := by decide +kernel
theorem dX4_ofHazard_12 : decode cX4_ofHazard 12 = .ok (.if_icmp .lt 13, 3) := by decide +kernel
theorem dX4_ofHazard_15 : decode cX4_ofHazard 15 = .ok (.new 106, 3) := by decide +kernel
theorem dX4_ofHazard_18 : decode cX4_ofHazard 18 = .ok (.dup, 1) := by decide +kernel
theorem dX4_ofHazard_19 : decode cX4_ofHazard 19 = .ok (.ldc 212, 2) := by decide +kernel
theorem dX4_ofHazard_21 : decode cX4_ofHazard 21 = .ok (.invokespecial 110, 3) := by decide +kernel
theorem dX4_ofHazard_24 : decode cX4_ofHazard 24 = .ok (.athrow, 1) := by decide +kernel
theorem dX4_ofHazard_25 : decode cX4_ofHazard 25 = .ok (.iload_n 2, 1) := by decide +kernel
theorem dX4_ofHazard_26 : decode cX4_ofHazard 26 = .ok (.tableswitch 56 0 2 #[26, 36, 46], 26) := by decide +kernel
theorem dX4_ofHazard_52 : decode cX4_ofHazard 52 = .ok (.aload_n 0, 1) := by decide +kernel
theorem dX4_ofHazard_53 : decode cX4_ofHazard 53 = .ok (.getfield 38, 3) := by decide +kernel
theorem dX4_ofHazard_56 : decode cX4_ofHazard 56 = .ok (.getfield 214, 3) := by decide +kernel
theorem dX4_ofHazard_59 : decode cX4_ofHazard 59 = .ok (.iload_n 1, 1) := by decide +kernel
theorem dX4_ofHazard_60 : decode cX4_ofHazard 60 = .ok (.iaload, 1) := by decide +kernel
theorem dX4_ofHazard_61 : decode cX4_ofHazard 61 = .ok (.ireturn, 1) := by decide +kernel
theorem dX4_ofHazard_62 : decode cX4_ofHazard 62 = .ok (.aload_n 0, 1) := by decide +kernel
theorem dX4_ofHazard_63 : decode cX4_ofHazard 63 = .ok (.getfield 38, 3) := by decide +kernel
theorem dX4_ofHazard_66 : decode cX4_ofHazard 66 = .ok (.getfield 217, 3) := by decide +kernel
theorem dX4_ofHazard_69 : decode cX4_ofHazard 69 = .ok (.iload_n 1, 1) := by decide +kernel
theorem dX4_ofHazard_70 : decode cX4_ofHazard 70 = .ok (.iaload, 1) := by decide +kernel
theorem dX4_ofHazard_71 : decode cX4_ofHazard 71 = .ok (.ireturn, 1) := by decide +kernel
theorem dX4_ofHazard_72 : decode cX4_ofHazard 72 = .ok (.aload_n 0, 1) := by decide +kernel
theorem dX4_ofHazard_73 : decode cX4_ofHazard 73 = .ok (.getfield 38, 3) := by decide +kernel
theorem dX4_ofHazard_76 : decode cX4_ofHazard 76 = .ok (.getfield 220, 3) := by decide +kernel
theorem dX4_ofHazard_79 : decode cX4_ofHazard 79 = .ok (.iload_n 1, 1) := by decide +kernel
theorem dX4_ofHazard_80 : decode cX4_ofHazard 80 = .ok (.iaload, 1) := by decide +kernel
theorem dX4_ofHazard_81 : decode cX4_ofHazard 81 = .ok (.ireturn, 1) := by decide +kernel
theorem dX4_ofHazard_82 : decode cX4_ofHazard 82 = .ok (.new 60, 3) := by decide +kernel
theorem dX4_ofHazard_85 : decode cX4_ofHazard 85 = .ok (.dup, 1) := by decide +kernel
theorem dX4_ofHazard_86 : decode cX4_ofHazard 86 = .ok (.ldc 223, 2) := by decide +kernel
theorem dX4_ofHazard_88 : decode cX4_ofHazard 88 = .ok (.invokespecial 64, 3) := by decide +kernel
theorem dX4_ofHazard_91 : decode cX4_ofHazard 91 = .ok (.athrow, 1) := by decide +kernel
theorem dX4_wouldBe_0 : decode cX4_wouldBe 0 = .ok (.aload_n 0, 1) := by decide +kernel
theorem dX4_wouldBe_1 : decode cX4_wouldBe 1 = .ok (.invokevirtual 157, 3) := by decide +kernel
theorem dX4_wouldBe_4 : decode cX4_wouldBe 4 = .ok (.iload_n 1, 1) := by decide +kernel
theorem dX4_wouldBe_5 : decode cX4_wouldBe 5 = .ok (.invokestatic 49, 3) := by decide +kernel
theorem dX4_wouldBe_8 : decode cX4_wouldBe 8 = .ok (.iload_n 3, 1) := by decide +kernel
theorem dX4_wouldBe_9 : decode cX4_wouldBe 9 = .ok (.invokestatic 49, 3) := by decide +kernel
theorem dX4_wouldBe_12 : decode cX4_wouldBe 12 = .ok (.aload_n 0, 1) := by decide +kernel
theorem dX4_wouldBe_13 : decode cX4_wouldBe 13 = .ok (.iload_n 1, 1) := by decide +kernel
theorem dX4_wouldBe_14 : decode cX4_wouldBe 14 = .ok (.iload_n 2, 1) := by decide +kernel
theorem dX4_wouldBe_15 : decode cX4_wouldBe 15 = .ok (.invokevirtual 160, 3) := by decide +kernel
theorem dX4_wouldBe_18 : decode cX4_wouldBe 18 = .ok (.aload_n 0, 1) := by decide +kernel
theorem dX4_wouldBe_19 : decode cX4_wouldBe 19 = .ok (.getfield 42, 3) := by decide +kernel
theorem dX4_wouldBe_22 : decode cX4_wouldBe 22 = .ok (.aload_n 0, 1) := by decide +kernel
theorem dX4_wouldBe_23 : decode cX4_wouldBe 23 = .ok (.getfield 38, 3) := by decide +kernel
theorem dX4_wouldBe_26 : decode cX4_wouldBe 26 = .ok (.invokevirtual 225, 3) := by decide +kernel
theorem dX4_wouldBe_29 : decode cX4_wouldBe 29 = .ok (.aload_n 0, 1) := by decide +kernel
theorem dX4_wouldBe_30 : decode cX4_wouldBe 30 = .ok (.getfield 42, 3) := by decide +kernel
theorem dX4_wouldBe_33 : decode cX4_wouldBe 33 = .ok (.iload_n 1, 1) := by decide +kernel
theorem dX4_wouldBe_34 : decode cX4_wouldBe 34 = .ok (.iload_n 2, 1) := by decide +kernel
theorem dX4_wouldBe_35 : decode cX4_wouldBe 35 = .ok (.invokevirtual 167, 3) := by decide +kernel
theorem dX4_wouldBe_38 : decode cX4_wouldBe 38 = .ok (.aload_n 0, 1) := by decide +kernel
theorem dX4_wouldBe_39 : decode cX4_wouldBe 39 = .ok (.getfield 42, 3) := by decide +kernel
theorem dX4_wouldBe_42 : decode cX4_wouldBe 42 = .ok (.invokevirtual 178, 3) := by decide +kernel
theorem dX4_wouldBe_45 : decode cX4_wouldBe 45 = .ok (.pop, 1) := by decide +kernel
theorem dX4_wouldBe_46 : decode cX4_wouldBe 46 = .ok (.aload_n 0, 1) := by decide +kernel
theorem dX4_wouldBe_47 : decode cX4_wouldBe 47 = .ok (.getfield 42, 3) := by decide +kernel
theorem dX4_wouldBe_50 : decode cX4_wouldBe 50 = .ok (.getfield 164, 3) := by decide +kernel
theorem dX4_wouldBe_53 : decode cX4_wouldBe 53 = .ok (.iload_n 3, 1) := by decide +kernel
theorem dX4_wouldBe_54 : decode cX4_wouldBe 54 = .ok (.iaload, 1) := by decide +kernel
theorem dX4_wouldBe_55 : decode cX4_wouldBe 55 = .ok (.ireturn, 1) := by decide +kernel
theorem dX4_settlesIn_0 : decode cX4_settlesIn 0 = .ok (.aload_n 0, 1) := by decide +kernel
theorem dX4_settlesIn_1 : decode cX4_settlesIn 1 = .ok (.invokevirtual 157, 3) := by decide +kernel
theorem dX4_settlesIn_4 : decode cX4_settlesIn 4 = .ok (.aload_n 0, 1) := by decide +kernel
theorem dX4_settlesIn_5 : decode cX4_settlesIn 5 = .ok (.getfield 42, 3) := by decide +kernel
theorem dX4_settlesIn_8 : decode cX4_settlesIn 8 = .ok (.aload_n 0, 1) := by decide +kernel
theorem dX4_settlesIn_9 : decode cX4_settlesIn 9 = .ok (.getfield 38, 3) := by decide +kernel
theorem dX4_settlesIn_12 : decode cX4_settlesIn 12 = .ok (.invokevirtual 225, 3) := by decide +kernel
theorem dX4_settlesIn_15 : decode cX4_settlesIn 15 = .ok (.aload_n 0, 1) := by decide +kernel
theorem dX4_settlesIn_16 : decode cX4_settlesIn 16 = .ok (.getfield 42, 3) := by decide +kernel
theorem dX4_settlesIn_19 : decode cX4_settlesIn 19 = .ok (.ldc 229, 2) := by decide +kernel
theorem dX4_settlesIn_21 : decode cX4_settlesIn 21 = .ok (.invokevirtual 175, 3) := by decide +kernel
theorem dX4_settlesIn_24 : decode cX4_settlesIn 24 = .ok (.pop, 1) := by decide +kernel
theorem dX4_settlesIn_25 : decode cX4_settlesIn 25 = .ok (.aload_n 0, 1) := by decide +kernel
theorem dX4_settlesIn_26 : decode cX4_settlesIn 26 = .ok (.getfield 42, 3) := by decide +kernel
theorem dX4_settlesIn_29 : decode cX4_settlesIn 29 = .ok (.getfield 187, 3) := by decide +kernel
theorem dX4_settlesIn_32 : decode cX4_settlesIn 32 = .ok (.aload_n 0, 1) := by decide +kernel
theorem dX4_settlesIn_33 : decode cX4_settlesIn 33 = .ok (.getfield 38, 3) := by decide +kernel
theorem dX4_settlesIn_36 : decode cX4_settlesIn 36 = .ok (.getfield 187, 3) := by decide +kernel
theorem dX4_settlesIn_39 : decode cX4_settlesIn 39 = .ok (.if_icmp .ne 21, 3) := by decide +kernel
theorem dX4_settlesIn_42 : decode cX4_settlesIn 42 = .ok (.aload_n 0, 1) := by decide +kernel
theorem dX4_settlesIn_43 : decode cX4_settlesIn 43 = .ok (.getfield 42, 3) := by decide +kernel
theorem dX4_settlesIn_46 : decode cX4_settlesIn 46 = .ok (.getfield 172, 3) := by decide +kernel
theorem dX4_settlesIn_49 : decode cX4_settlesIn 49 = .ok (.aload_n 0, 1) := by decide +kernel
theorem dX4_settlesIn_50 : decode cX4_settlesIn 50 = .ok (.getfield 38, 3) := by decide +kernel
theorem dX4_settlesIn_53 : decode cX4_settlesIn 53 = .ok (.getfield 172, 3) := by decide +kernel
theorem dX4_settlesIn_56 : decode cX4_settlesIn 56 = .ok (.isub, 1) := by decide +kernel
theorem dX4_settlesIn_57 : decode cX4_settlesIn 57 = .ok (.goto 4, 3) := by decide +kernel
theorem dX4_settlesIn_60 : decode cX4_settlesIn 60 = .ok (.iconst (-1), 1) := by decide +kernel
theorem dX4_settlesIn_61 : decode cX4_settlesIn 61 = .ok (.ireturn, 1) := by decide +kernel
theorem dX4_longestWith_0 : decode cX4_longestWith 0 = .ok (.aload_n 0, 1) := by decide +kernel
theorem dX4_longestWith_1 : decode cX4_longestWith 1 = .ok (.iload_n 1, 1) := by decide +kernel
theorem dX4_longestWith_2 : decode cX4_longestWith 2 = .ok (.invokevirtual 70, 3) := by decide +kernel
theorem dX4_longestWith_5 : decode cX4_longestWith 5 = .ok (.aload_n 0, 1) := by decide +kernel
theorem dX4_longestWith_6 : decode cX4_longestWith 6 = .ok (.iload_n 1, 1) := by decide +kernel
theorem dX4_longestWith_7 : decode cX4_longestWith 7 = .ok (.invokevirtual 91, 3) := by decide +kernel
theorem dX4_longestWith_10 : decode cX4_longestWith 10 = .ok (.iload_n 2, 1) := by decide +kernel
theorem dX4_longestWith_11 : decode cX4_longestWith 11 = .ok (.invokestatic 67, 3) := by decide +kernel
theorem dX4_longestWith_14 : decode cX4_longestWith 14 = .ok (.aload_n 0, 1) := by decide +kernel
theorem dX4_longestWith_15 : decode cX4_longestWith 15 = .ok (.getfield 30, 3) := by decide +kernel
theorem dX4_longestWith_18 : decode cX4_longestWith 18 = .ok (.aload_n 0, 1) := by decide +kernel
theorem dX4_longestWith_19 : decode cX4_longestWith 19 = .ok (.getfield 10, 3) := by decide +kernel
theorem dX4_longestWith_22 : decode cX4_longestWith 22 = .ok (.aload_n 0, 1) := by decide +kernel
theorem dX4_longestWith_23 : decode cX4_longestWith 23 = .ok (.getfield 19, 3) := by decide +kernel
theorem dX4_longestWith_26 : decode cX4_longestWith 26 = .ok (.iload_n 1, 1) := by decide +kernel
theorem dX4_longestWith_27 : decode cX4_longestWith 27 = .ok (.iload_n 2, 1) := by decide +kernel
theorem dX4_longestWith_28 : decode cX4_longestWith 28 = .ok (.invokevirtual 97, 3) := by decide +kernel
theorem dX4_longestWith_31 : decode cX4_longestWith 31 = .ok (.aload_n 0, 1) := by decide +kernel
theorem dX4_longestWith_32 : decode cX4_longestWith 32 = .ok (.getfield 30, 3) := by decide +kernel
theorem dX4_longestWith_35 : decode cX4_longestWith 35 = .ok (.invokevirtual 122, 3) := by decide +kernel
theorem dX4_longestWith_38 : decode cX4_longestWith 38 = .ok (.ireturn, 1) := by decide +kernel
theorem dX4_digest_0 : decode cX4_digest 0 = .ok (.ldc2_w 233, 3) := by decide +kernel
theorem dX4_digest_3 : decode cX4_digest 3 = .ok (.lstore_n 1, 1) := by decide +kernel
theorem dX4_digest_4 : decode cX4_digest 4 = .ok (.lload_n 1, 1) := by decide +kernel
theorem dX4_digest_5 : decode cX4_digest 5 = .ok (.ldc2_w 235, 3) := by decide +kernel
theorem dX4_digest_8 : decode cX4_digest 8 = .ok (.lmul, 1) := by decide +kernel
theorem dX4_digest_9 : decode cX4_digest 9 = .ok (.aload_n 0, 1) := by decide +kernel
theorem dX4_digest_10 : decode cX4_digest 10 = .ok (.invokevirtual 237, 3) := by decide +kernel
theorem dX4_digest_13 : decode cX4_digest 13 = .ok (.i2l, 1) := by decide +kernel
theorem dX4_digest_14 : decode cX4_digest 14 = .ok (.ladd, 1) := by decide +kernel
theorem dX4_digest_15 : decode cX4_digest 15 = .ok (.lstore_n 1, 1) := by decide +kernel
theorem dX4_digest_16 : decode cX4_digest 16 = .ok (.lload_n 1, 1) := by decide +kernel
theorem dX4_digest_17 : decode cX4_digest 17 = .ok (.ldc2_w 235, 3) := by decide +kernel
theorem dX4_digest_20 : decode cX4_digest 20 = .ok (.lmul, 1) := by decide +kernel
theorem dX4_digest_21 : decode cX4_digest 21 = .ok (.aload_n 0, 1) := by decide +kernel
theorem dX4_digest_22 : decode cX4_digest 22 = .ok (.invokevirtual 240, 3) := by decide +kernel
theorem dX4_digest_25 : decode cX4_digest 25 = .ok (.i2l, 1) := by decide +kernel
theorem dX4_digest_26 : decode cX4_digest 26 = .ok (.ladd, 1) := by decide +kernel
theorem dX4_digest_27 : decode cX4_digest 27 = .ok (.lstore_n 1, 1) := by decide +kernel
theorem dX4_digest_28 : decode cX4_digest 28 = .ok (.lload_n 1, 1) := by decide +kernel
theorem dX4_digest_29 : decode cX4_digest 29 = .ok (.ldc2_w 235, 3) := by decide +kernel
theorem dX4_digest_32 : decode cX4_digest 32 = .ok (.lmul, 1) := by decide +kernel
theorem dX4_digest_33 : decode cX4_digest 33 = .ok (.aload_n 0, 1) := by decide +kernel
theorem dX4_digest_34 : decode cX4_digest 34 = .ok (.invokevirtual 243, 3) := by decide +kernel
theorem dX4_digest_37 : decode cX4_digest 37 = .ok (.i2l, 1) := by decide +kernel
theorem dX4_digest_38 : decode cX4_digest 38 = .ok (.ladd, 1) := by decide +kernel
theorem dX4_digest_39 : decode cX4_digest 39 = .ok (.lstore_n 1, 1) := by decide +kernel
theorem dX4_digest_40 : decode cX4_digest 40 = .ok (.lload_n 1, 1) := by decide +kernel
theorem dX4_digest_41 : decode cX4_digest 41 = .ok (.ldc2_w 235, 3) := by decide +kernel
theorem dX4_digest_44 : decode cX4_digest 44 = .ok (.lmul, 1) := by decide +kernel
theorem dX4_digest_45 : decode cX4_digest 45 = .ok (.aload_n 0, 1) := by decide +kernel
theorem dX4_digest_46 : decode cX4_digest 46 = .ok (.invokevirtual 246, 3) := by decide +kernel
theorem dX4_digest_49 : decode cX4_digest 49 = .ok (.ifCond .eq 7, 3) := by decide +kernel
theorem dX4_digest_52 : decode cX4_digest 52 = .ok (.iconst 1, 1) := by decide +kernel
theorem dX4_digest_53 : decode cX4_digest 53 = .ok (.goto 4, 3) := by decide +kernel
theorem dX4_digest_56 : decode cX4_digest 56 = .ok (.iconst 0, 1) := by decide +kernel
theorem dX4_digest_57 : decode cX4_digest 57 = .ok (.i2l, 1) := by decide +kernel
theorem dX4_digest_58 : decode cX4_digest 58 = .ok (.ladd, 1) := by decide +kernel
theorem dX4_digest_59 : decode cX4_digest 59 = .ok (.lstore_n 1, 1) := by decide +kernel
theorem dX4_digest_60 : decode cX4_digest 60 = .ok (.aload_n 0, 1) := by decide +kernel
theorem dX4_digest_61 : decode cX4_digest 61 = .ok (.lload_n 1, 1) := by decide +kernel
theorem dX4_digest_62 : decode cX4_digest 62 = .ok (.invokevirtual 250, 3) := by decide +kernel
theorem dX4_digest_65 : decode cX4_digest 65 = .ok (.lstore_n 1, 1) := by decide +kernel
theorem dX4_digest_66 : decode cX4_digest 66 = .ok (.aload_n 0, 1) := by decide +kernel
theorem dX4_digest_67 : decode cX4_digest 67 = .ok (.lload_n 1, 1) := by decide +kernel
theorem dX4_digest_68 : decode cX4_digest 68 = .ok (.invokevirtual 254, 3) := by decide +kernel
theorem dX4_digest_71 : decode cX4_digest 71 = .ok (.lstore_n 1, 1) := by decide +kernel
theorem dX4_digest_72 : decode cX4_digest 72 = .ok (.aload_n 0, 1) := by decide +kernel
theorem dX4_digest_73 : decode cX4_digest 73 = .ok (.lload_n 1, 1) := by decide +kernel
theorem dX4_digest_74 : decode cX4_digest 74 = .ok (.invokevirtual 257, 3) := by decide +kernel
theorem dX4_digest_77 : decode cX4_digest 77 = .ok (.lstore_n 1, 1) := by decide +kernel
theorem dX4_digest_78 : decode cX4_digest 78 = .ok (.aload_n 0, 1) := by decide +kernel
theorem dX4_digest_79 : decode cX4_digest 79 = .ok (.lload_n 1, 1) := by decide +kernel
theorem dX4_digest_80 : decode cX4_digest 80 = .ok (.invokevirtual 260, 3) := by decide +kernel
theorem dX4_digest_83 : decode cX4_digest 83 = .ok (.lstore_n 1, 1) := by decide +kernel
theorem dX4_digest_84 : decode cX4_digest 84 = .ok (.aload_n 0, 1) := by decide +kernel
theorem dX4_digest_85 : decode cX4_digest 85 = .ok (.getfield 45, 3) := by decide +kernel
theorem dX4_digest_88 : decode cX4_digest 88 = .ok (.ifCond .eq 17, 3) := by decide +kernel
theorem dX4_digest_91 : decode cX4_digest 91 = .ok (.lload_n 1, 1) := by decide +kernel
theorem dX4_digest_92 : decode cX4_digest 92 = .ok (.ldc2_w 235, 3) := by decide +kernel
theorem dX4_digest_95 : decode cX4_digest 95 = .ok (.lmul, 1) := by decide +kernel
theorem dX4_digest_96 : decode cX4_digest 96 = .ok (.aload_n 0, 1) := by decide +kernel
theorem dX4_digest_97 : decode cX4_digest 97 = .ok (.invokevirtual 263, 3) := by decide +kernel
theorem dX4_digest_100 : decode cX4_digest 100 = .ok (.i2l, 1) := by decide +kernel
theorem dX4_digest_101 : decode cX4_digest 101 = .ok (.ladd, 1) := by decide +kernel
theorem dX4_digest_102 : decode cX4_digest 102 = .ok (.goto 4, 3) := by decide +kernel
theorem dX4_digest_105 : decode cX4_digest 105 = .ok (.lload_n 1, 1) := by decide +kernel
theorem dX4_digest_106 : decode cX4_digest 106 = .ok (.lreturn, 1) := by decide +kernel
theorem dX4_digestOfTimes_0 : decode cX4_digestOfTimes 0 = .ok (.lload_n 1, 1) := by decide +kernel
theorem dX4_digestOfTimes_1 : decode cX4_digestOfTimes 1 = .ok (.lstore_n 3, 1) := by decide +kernel
theorem dX4_digestOfTimes_2 : decode cX4_digestOfTimes 2 = .ok (.iconst 0, 1) := by decide +kernel
theorem dX4_digestOfTimes_3 : decode cX4_digestOfTimes 3 = .ok (.istore 5, 2) := by decide +kernel
theorem dX4_digestOfTimes_5 : decode cX4_digestOfTimes 5 = .ok (.iload 5, 2) := by decide +kernel
theorem dX4_digestOfTimes_7 : decode cX4_digestOfTimes 7 = .ok (.iconst 5, 1) := by decide +kernel
theorem dX4_digestOfTimes_8 : decode cX4_digestOfTimes 8 = .ok (.if_icmp .gt 23, 3) := by decide +kernel
theorem dX4_digestOfTimes_11 : decode cX4_digestOfTimes 11 = .ok (.lload_n 3, 1) := by decide +kernel
theorem dX4_digestOfTimes_12 : decode cX4_digestOfTimes 12 = .ok (.ldc2_w 235, 3) := by decide +kernel
theorem dX4_digestOfTimes_15 : decode cX4_digestOfTimes 15 = .ok (.lmul, 1) := by decide +kernel
theorem dX4_digestOfTimes_16 : decode cX4_digestOfTimes 16 = .ok (.aload_n 0, 1) := by decide +kernel
theorem dX4_digestOfTimes_17 : decode cX4_digestOfTimes 17 = .ok (.iload 5, 2) := by decide +kernel
theorem dX4_digestOfTimes_19 : decode cX4_digestOfTimes 19 = .ok (.invokevirtual 266, 3) := by decide +kernel
theorem dX4_digestOfTimes_22 : decode cX4_digestOfTimes 22 = .ok (.i2l, 1) := by decide +kernel
theorem dX4_digestOfTimes_23 : decode cX4_digestOfTimes 23 = .ok (.ladd, 1) := by decide +kernel
theorem dX4_digestOfTimes_24 : decode cX4_digestOfTimes 24 = .ok (.lstore_n 3, 1) := by decide +kernel
theorem dX4_digestOfTimes_25 : decode cX4_digestOfTimes 25 = .ok (.iinc 5 1, 3) := by decide +kernel
theorem dX4_digestOfTimes_28 : decode cX4_digestOfTimes 28 = .ok (.goto (-23), 3) := by decide +kernel
theorem dX4_digestOfTimes_31 : decode cX4_digestOfTimes 31 = .ok (.lload_n 3, 1) := by decide +kernel
theorem dX4_digestOfTimes_32 : decode cX4_digestOfTimes 32 = .ok (.lreturn, 1) := by decide +kernel
theorem dX4_digestOfCircuit_0 : decode cX4_digestOfCircuit 0 = .ok (.lload_n 1, 1) := by decide +kernel
theorem dX4_digestOfCircuit_1 : decode cX4_digestOfCircuit 1 = .ok (.lstore_n 3, 1) := by decide +kernel
theorem dX4_digestOfCircuit_2 : decode cX4_digestOfCircuit 2 = .ok (.iconst 0, 1) := by decide +kernel
theorem dX4_digestOfCircuit_3 : decode cX4_digestOfCircuit 3 = .ok (.istore 5, 2) := by decide +kernel
theorem dX4_digestOfCircuit_5 : decode cX4_digestOfCircuit 5 = .ok (.iload 5, 2) := by decide +kernel
theorem dX4_digestOfCircuit_7 : decode cX4_digestOfCircuit 7 = .ok (.aload_n 0, 1) := by decide +kernel
theorem dX4_digestOfCircuit_8 : decode cX4_digestOfCircuit 8 = .ok (.getfield 19, 3) := by decide +kernel
theorem dX4_digestOfCircuit_11 : decode cX4_digestOfCircuit 11 = .ok (.getfield 105, 3) := by decide +kernel
theorem dX4_digestOfCircuit_14 : decode cX4_digestOfCircuit 14 = .ok (.if_icmp .ge 39, 3) := by decide +kernel
theorem dX4_digestOfCircuit_17 : decode cX4_digestOfCircuit 17 = .ok (.lload_n 3, 1) := by decide +kernel
theorem dX4_digestOfCircuit_18 : decode cX4_digestOfCircuit 18 = .ok (.ldc2_w 235, 3) := by decide +kernel
theorem dX4_digestOfCircuit_21 : decode cX4_digestOfCircuit 21 = .ok (.lmul, 1) := by decide +kernel
theorem dX4_digestOfCircuit_22 : decode cX4_digestOfCircuit 22 = .ok (.aload_n 0, 1) := by decide +kernel
theorem dX4_digestOfCircuit_23 : decode cX4_digestOfCircuit 23 = .ok (.iload 5, 2) := by decide +kernel
theorem dX4_digestOfCircuit_25 : decode cX4_digestOfCircuit 25 = .ok (.iconst 0, 1) := by decide +kernel
theorem dX4_digestOfCircuit_26 : decode cX4_digestOfCircuit 26 = .ok (.invokevirtual 269, 3) := by decide +kernel
theorem dX4_digestOfCircuit_29 : decode cX4_digestOfCircuit 29 = .ok (.i2l, 1) := by decide +kernel
theorem dX4_digestOfCircuit_30 : decode cX4_digestOfCircuit 30 = .ok (.ladd, 1) := by decide +kernel
theorem dX4_digestOfCircuit_31 : decode cX4_digestOfCircuit 31 = .ok (.lstore_n 3, 1) := by decide +kernel
theorem dX4_digestOfCircuit_32 : decode cX4_digestOfCircuit 32 = .ok (.lload_n 3, 1) := by decide +kernel
theorem dX4_digestOfCircuit_33 : decode cX4_digestOfCircuit 33 = .ok (.ldc2_w 235, 3) := by decide +kernel
theorem dX4_digestOfCircuit_36 : decode cX4_digestOfCircuit 36 = .ok (.lmul, 1) := by decide +kernel
theorem dX4_digestOfCircuit_37 : decode cX4_digestOfCircuit 37 = .ok (.aload_n 0, 1) := by decide +kernel
theorem dX4_digestOfCircuit_38 : decode cX4_digestOfCircuit 38 = .ok (.iload 5, 2) := by decide +kernel
theorem dX4_digestOfCircuit_40 : decode cX4_digestOfCircuit 40 = .ok (.iconst 1, 1) := by decide +kernel
theorem dX4_digestOfCircuit_41 : decode cX4_digestOfCircuit 41 = .ok (.invokevirtual 269, 3) := by decide +kernel
theorem dX4_digestOfCircuit_44 : decode cX4_digestOfCircuit 44 = .ok (.i2l, 1) := by decide +kernel
theorem dX4_digestOfCircuit_45 : decode cX4_digestOfCircuit 45 = .ok (.ladd, 1) := by decide +kernel
theorem dX4_digestOfCircuit_46 : decode cX4_digestOfCircuit 46 = .ok (.lstore_n 3, 1) := by decide +kernel
theorem dX4_digestOfCircuit_47 : decode cX4_digestOfCircuit 47 = .ok (.iinc 5 1, 3) := by decide +kernel
theorem dX4_digestOfCircuit_50 : decode cX4_digestOfCircuit 50 = .ok (.goto (-45), 3) := by decide +kernel
theorem dX4_digestOfCircuit_53 : decode cX4_digestOfCircuit 53 = .ok (.iconst 0, 1) := by decide +kernel
theorem dX4_digestOfCircuit_54 : decode cX4_digestOfCircuit 54 = .ok (.istore 5, 2) := by decide +kernel
theorem dX4_digestOfCircuit_56 : decode cX4_digestOfCircuit 56 = .ok (.iload 5, 2) := by decide +kernel
theorem dX4_digestOfCircuit_58 : decode cX4_digestOfCircuit 58 = .ok (.bipush 6, 2) := by decide +kernel
theorem dX4_digestOfCircuit_60 : decode cX4_digestOfCircuit 60 = .ok (.if_icmp .ge 23, 3) := by decide +kernel
theorem dX4_digestOfCircuit_63 : decode cX4_digestOfCircuit 63 = .ok (.lload_n 3, 1) := by decide +kernel
theorem dX4_digestOfCircuit_64 : decode cX4_digestOfCircuit 64 = .ok (.ldc2_w 235, 3) := by decide +kernel
theorem dX4_digestOfCircuit_67 : decode cX4_digestOfCircuit 67 = .ok (.lmul, 1) := by decide +kernel
theorem dX4_digestOfCircuit_68 : decode cX4_digestOfCircuit 68 = .ok (.aload_n 0, 1) := by decide +kernel
theorem dX4_digestOfCircuit_69 : decode cX4_digestOfCircuit 69 = .ok (.iload 5, 2) := by decide +kernel
theorem dX4_digestOfCircuit_71 : decode cX4_digestOfCircuit 71 = .ok (.invokevirtual 273, 3) := by decide +kernel
theorem dX4_digestOfCircuit_74 : decode cX4_digestOfCircuit 74 = .ok (.i2l, 1) := by decide +kernel
theorem dX4_digestOfCircuit_75 : decode cX4_digestOfCircuit 75 = .ok (.ladd, 1) := by decide +kernel
theorem dX4_digestOfCircuit_76 : decode cX4_digestOfCircuit 76 = .ok (.lstore_n 3, 1) := by decide +kernel
theorem dX4_digestOfCircuit_77 : decode cX4_digestOfCircuit 77 = .ok (.iinc 5 1, 3) := by decide +kernel
theorem dX4_digestOfCircuit_80 : decode cX4_digestOfCircuit 80 = .ok (.goto (-24), 3) := by decide +kernel
theorem dX4_digestOfCircuit_83 : decode cX4_digestOfCircuit 83 = .ok (.lload_n 3, 1) := by decide +kernel
theorem dX4_digestOfCircuit_84 : decode cX4_digestOfCircuit 84 = .ok (.lreturn, 1) := by decide +kernel
theorem dX4_digestOfWires_0 : decode cX4_digestOfWires 0 = .ok (.lload_n 1, 1) := by decide +kernel
theorem dX4_digestOfWires_1 : decode cX4_digestOfWires 1 = .ok (.lstore_n 3, 1) := by decide +kernel
theorem dX4_digestOfWires_2 : decode cX4_digestOfWires 2 = .ok (.iconst 0, 1) := by decide +kernel
theorem dX4_digestOfWires_3 : decode cX4_digestOfWires 3 = .ok (.istore 5, 2) := by decide +kernel
theorem dX4_digestOfWires_5 : decode cX4_digestOfWires 5 = .ok (.iload 5, 2) := by decide +kernel
theorem dX4_digestOfWires_7 : decode cX4_digestOfWires 7 = .ok (.bipush 24, 2) := by decide +kernel
theorem dX4_digestOfWires_9 : decode cX4_digestOfWires 9 = .ok (.if_icmp .ge 68, 3) := by decide +kernel
theorem dX4_digestOfWires_12 : decode cX4_digestOfWires 12 = .ok (.lload_n 3, 1) := by decide +kernel
theorem dX4_digestOfWires_13 : decode cX4_digestOfWires 13 = .ok (.ldc2_w 235, 3) := by decide +kernel
theorem dX4_digestOfWires_16 : decode cX4_digestOfWires 16 = .ok (.lmul, 1) := by decide +kernel
theorem dX4_digestOfWires_17 : decode cX4_digestOfWires 17 = .ok (.aload_n 0, 1) := by decide +kernel
theorem dX4_digestOfWires_18 : decode cX4_digestOfWires 18 = .ok (.iload 5, 2) := by decide +kernel
theorem dX4_digestOfWires_20 : decode cX4_digestOfWires 20 = .ok (.invokevirtual 276, 3) := by decide +kernel
theorem dX4_digestOfWires_23 : decode cX4_digestOfWires 23 = .ok (.i2l, 1) := by decide +kernel
theorem dX4_digestOfWires_24 : decode cX4_digestOfWires 24 = .ok (.ladd, 1) := by decide +kernel
theorem dX4_digestOfWires_25 : decode cX4_digestOfWires 25 = .ok (.lstore_n 3, 1) := by decide +kernel
theorem dX4_digestOfWires_26 : decode cX4_digestOfWires 26 = .ok (.lload_n 3, 1) := by decide +kernel
theorem dX4_digestOfWires_27 : decode cX4_digestOfWires 27 = .ok (.ldc2_w 235, 3) := by decide +kernel
theorem dX4_digestOfWires_30 : decode cX4_digestOfWires 30 = .ok (.lmul, 1) := by decide +kernel
theorem dX4_digestOfWires_31 : decode cX4_digestOfWires 31 = .ok (.aload_n 0, 1) := by decide +kernel
theorem dX4_digestOfWires_32 : decode cX4_digestOfWires 32 = .ok (.iload 5, 2) := by decide +kernel
theorem dX4_digestOfWires_34 : decode cX4_digestOfWires 34 = .ok (.invokevirtual 278, 3) := by decide +kernel
theorem dX4_digestOfWires_37 : decode cX4_digestOfWires 37 = .ok (.i2l, 1) := by decide +kernel
theorem dX4_digestOfWires_38 : decode cX4_digestOfWires 38 = .ok (.ladd, 1) := by decide +kernel
theorem dX4_digestOfWires_39 : decode cX4_digestOfWires 39 = .ok (.lstore_n 3, 1) := by decide +kernel
theorem dX4_digestOfWires_40 : decode cX4_digestOfWires 40 = .ok (.iconst 0, 1) := by decide +kernel
theorem dX4_digestOfWires_41 : decode cX4_digestOfWires 41 = .ok (.istore 6, 2) := by decide +kernel
theorem dX4_digestOfWires_43 : decode cX4_digestOfWires 43 = .ok (.iload 6, 2) := by decide +kernel
theorem dX4_digestOfWires_45 : decode cX4_digestOfWires 45 = .ok (.iconst 3, 1) := by decide +kernel
theorem dX4_digestOfWires_46 : decode cX4_digestOfWires 46 = .ok (.if_icmp .gt 25, 3) := by decide +kernel
theorem dX4_digestOfWires_49 : decode cX4_digestOfWires 49 = .ok (.lload_n 3, 1) := by decide +kernel
theorem dX4_digestOfWires_50 : decode cX4_digestOfWires 50 = .ok (.ldc2_w 235, 3) := by decide +kernel
theorem dX4_digestOfWires_53 : decode cX4_digestOfWires 53 = .ok (.lmul, 1) := by decide +kernel
theorem dX4_digestOfWires_54 : decode cX4_digestOfWires 54 = .ok (.aload_n 0, 1) := by decide +kernel
theorem dX4_digestOfWires_55 : decode cX4_digestOfWires 55 = .ok (.iload 5, 2) := by decide +kernel
theorem dX4_digestOfWires_57 : decode cX4_digestOfWires 57 = .ok (.iload 6, 2) := by decide +kernel
theorem dX4_digestOfWires_59 : decode cX4_digestOfWires 59 = .ok (.invokevirtual 280, 3) := by decide +kernel
theorem dX4_digestOfWires_62 : decode cX4_digestOfWires 62 = .ok (.i2l, 1) := by decide +kernel
theorem dX4_digestOfWires_63 : decode cX4_digestOfWires 63 = .ok (.ladd, 1) := by decide +kernel
theorem dX4_digestOfWires_64 : decode cX4_digestOfWires 64 = .ok (.lstore_n 3, 1) := by decide +kernel
theorem dX4_digestOfWires_65 : decode cX4_digestOfWires 65 = .ok (.iinc 6 1, 3) := by decide +kernel
theorem dX4_digestOfWires_68 : decode cX4_digestOfWires 68 = .ok (.goto (-25), 3) := by decide +kernel
theorem dX4_digestOfWires_71 : decode cX4_digestOfWires 71 = .ok (.iinc 5 1, 3) := by decide +kernel
theorem dX4_digestOfWires_74 : decode cX4_digestOfWires 74 = .ok (.goto (-69), 3) := by decide +kernel
theorem dX4_digestOfWires_77 : decode cX4_digestOfWires 77 = .ok (.lload_n 3, 1) := by decide +kernel
theorem dX4_digestOfWires_78 : decode cX4_digestOfWires 78 = .ok (.lreturn, 1) := by decide +kernel
theorem dX4_digestOfRun_0 : decode cX4_digestOfRun 0 = .ok (.lload_n 1, 1) := by decide +kernel
theorem dX4_digestOfRun_1 : decode cX4_digestOfRun 1 = .ok (.lstore_n 3, 1) := by decide +kernel
theorem dX4_digestOfRun_2 : decode cX4_digestOfRun 2 = .ok (.iconst 0, 1) := by decide +kernel
theorem dX4_digestOfRun_3 : decode cX4_digestOfRun 3 = .ok (.istore 5, 2) := by decide +kernel
theorem dX4_digestOfRun_5 : decode cX4_digestOfRun 5 = .ok (.iload 5, 2) := by decide +kernel
theorem dX4_digestOfRun_7 : decode cX4_digestOfRun 7 = .ok (.aload_n 0, 1) := by decide +kernel
theorem dX4_digestOfRun_8 : decode cX4_digestOfRun 8 = .ok (.getfield 10, 3) := by decide +kernel
theorem dX4_digestOfRun_11 : decode cX4_digestOfRun 11 = .ok (.getfield 101, 3) := by decide +kernel
theorem dX4_digestOfRun_14 : decode cX4_digestOfRun 14 = .ok (.if_icmp .ge 23, 3) := by decide +kernel
theorem dX4_digestOfRun_17 : decode cX4_digestOfRun 17 = .ok (.lload_n 3, 1) := by decide +kernel
theorem dX4_digestOfRun_18 : decode cX4_digestOfRun 18 = .ok (.ldc2_w 235, 3) := by decide +kernel
theorem dX4_digestOfRun_21 : decode cX4_digestOfRun 21 = .ok (.lmul, 1) := by decide +kernel
theorem dX4_digestOfRun_22 : decode cX4_digestOfRun 22 = .ok (.aload_n 0, 1) := by decide +kernel
theorem dX4_digestOfRun_23 : decode cX4_digestOfRun 23 = .ok (.iload 5, 2) := by decide +kernel
theorem dX4_digestOfRun_25 : decode cX4_digestOfRun 25 = .ok (.invokevirtual 283, 3) := by decide +kernel
theorem dX4_digestOfRun_28 : decode cX4_digestOfRun 28 = .ok (.i2l, 1) := by decide +kernel
theorem dX4_digestOfRun_29 : decode cX4_digestOfRun 29 = .ok (.ladd, 1) := by decide +kernel
theorem dX4_digestOfRun_30 : decode cX4_digestOfRun 30 = .ok (.lstore_n 3, 1) := by decide +kernel
theorem dX4_digestOfRun_31 : decode cX4_digestOfRun 31 = .ok (.iinc 5 1, 3) := by decide +kernel
theorem dX4_digestOfRun_34 : decode cX4_digestOfRun 34 = .ok (.goto (-29), 3) := by decide +kernel
theorem dX4_digestOfRun_37 : decode cX4_digestOfRun 37 = .ok (.lload_n 3, 1) := by decide +kernel
theorem dX4_digestOfRun_38 : decode cX4_digestOfRun 38 = .ok (.ldc2_w 235, 3) := by decide +kernel
theorem dX4_digestOfRun_41 : decode cX4_digestOfRun 41 = .ok (.lmul, 1) := by decide +kernel
theorem dX4_digestOfRun_42 : decode cX4_digestOfRun 42 = .ok (.aload_n 0, 1) := by decide +kernel
theorem dX4_digestOfRun_43 : decode cX4_digestOfRun 43 = .ok (.invokevirtual 286, 3) := by decide +kernel
theorem dX4_digestOfRun_46 : decode cX4_digestOfRun 46 = .ok (.i2l, 1) := by decide +kernel
theorem dX4_digestOfRun_47 : decode cX4_digestOfRun 47 = .ok (.ladd, 1) := by decide +kernel
theorem dX4_digestOfRun_48 : decode cX4_digestOfRun 48 = .ok (.lstore_n 3, 1) := by decide +kernel
theorem dX4_digestOfRun_49 : decode cX4_digestOfRun 49 = .ok (.iconst 0, 1) := by decide +kernel
theorem dX4_digestOfRun_50 : decode cX4_digestOfRun 50 = .ok (.istore 5, 2) := by decide +kernel
theorem dX4_digestOfRun_52 : decode cX4_digestOfRun 52 = .ok (.iload 5, 2) := by decide +kernel
theorem dX4_digestOfRun_54 : decode cX4_digestOfRun 54 = .ok (.aload_n 0, 1) := by decide +kernel
theorem dX4_digestOfRun_55 : decode cX4_digestOfRun 55 = .ok (.getfield 38, 3) := by decide +kernel
theorem dX4_digestOfRun_58 : decode cX4_digestOfRun 58 = .ok (.getfield 209, 3) := by decide +kernel
theorem dX4_digestOfRun_61 : decode cX4_digestOfRun 61 = .ok (.if_icmp .ge 40, 3) := by decide +kernel
theorem dX4_digestOfRun_64 : decode cX4_digestOfRun 64 = .ok (.iconst 0, 1) := by decide +kernel
theorem dX4_digestOfRun_65 : decode cX4_digestOfRun 65 = .ok (.istore 6, 2) := by decide +kernel
theorem dX4_digestOfRun_67 : decode cX4_digestOfRun 67 = .ok (.iload 6, 2) := by decide +kernel
theorem dX4_digestOfRun_69 : decode cX4_digestOfRun 69 = .ok (.iconst 2, 1) := by decide +kernel
theorem dX4_digestOfRun_70 : decode cX4_digestOfRun 70 = .ok (.if_icmp .gt 25, 3) := by decide +kernel
theorem dX4_digestOfRun_73 : decode cX4_digestOfRun 73 = .ok (.lload_n 3, 1) := by decide +kernel
theorem dX4_digestOfRun_74 : decode cX4_digestOfRun 74 = .ok (.ldc2_w 235, 3) := by decide +kernel
theorem dX4_digestOfRun_77 : decode cX4_digestOfRun 77 = .ok (.lmul, 1) := by decide +kernel
theorem dX4_digestOfRun_78 : decode cX4_digestOfRun 78 = .ok (.aload_n 0, 1) := by decide +kernel
theorem dX4_digestOfRun_79 : decode cX4_digestOfRun 79 = .ok (.iload 5, 2) := by decide +kernel
theorem dX4_digestOfRun_81 : decode cX4_digestOfRun 81 = .ok (.iload 6, 2) := by decide +kernel
theorem dX4_digestOfRun_83 : decode cX4_digestOfRun 83 = .ok (.invokevirtual 289, 3) := by decide +kernel
theorem dX4_digestOfRun_86 : decode cX4_digestOfRun 86 = .ok (.i2l, 1) := by decide +kernel
theorem dX4_digestOfRun_87 : decode cX4_digestOfRun 87 = .ok (.ladd, 1) := by decide +kernel
theorem dX4_digestOfRun_88 : decode cX4_digestOfRun 88 = .ok (.lstore_n 3, 1) := by decide +kernel
theorem dX4_digestOfRun_89 : decode cX4_digestOfRun 89 = .ok (.iinc 6 1, 3) := by decide +kernel
theorem dX4_digestOfRun_92 : decode cX4_digestOfRun 92 = .ok (.goto (-25), 3) := by decide +kernel
theorem dX4_digestOfRun_95 : decode cX4_digestOfRun 95 = .ok (.iinc 5 1, 3) := by decide +kernel
theorem dX4_digestOfRun_98 : decode cX4_digestOfRun 98 = .ok (.goto (-46), 3) := by decide +kernel
theorem dX4_digestOfRun_101 : decode cX4_digestOfRun 101 = .ok (.lload_n 3, 1) := by decide +kernel
theorem dX4_digestOfRun_102 : decode cX4_digestOfRun 102 = .ok (.lreturn, 1) := by decide +kernel
theorem dX4_addLine_0 : decode cX4_addLine 0 = .ok (.aload_n 0, 1) := by decide +kernel
theorem dX4_addLine_1 : decode cX4_addLine 1 = .ok (.getfield 10, 3) := by decide +kernel
theorem dX4_addLine_4 : decode cX4_addLine 4 = .ok (.iload_n 1, 1) := by decide +kernel
theorem dX4_addLine_5 : decode cX4_addLine 5 = .ok (.iload_n 2, 1) := by decide +kernel
theorem dX4_addLine_6 : decode cX4_addLine 6 = .ok (.iload_n 3, 1) := by decide +kernel
theorem dX4_addLine_7 : decode cX4_addLine 7 = .ok (.iload 4, 2) := by decide +kernel
theorem dX4_addLine_9 : decode cX4_addLine 9 = .ok (.iload 5, 2) := by decide +kernel
theorem dX4_addLine_11 : decode cX4_addLine 11 = .ok (.iload 6, 2) := by decide +kernel
theorem dX4_addLine_13 : decode cX4_addLine 13 = .ok (.invokevirtual 292, 3) := by decide +kernel
theorem dX4_addLine_16 : decode cX4_addLine 16 = .ok (.istore 7, 2) := by decide +kernel
theorem dX4_addLine_18 : decode cX4_addLine 18 = .ok (.aload_n 0, 1) := by decide +kernel
theorem dX4_addLine_19 : decode cX4_addLine 19 = .ok (.iconst 0, 1) := by decide +kernel
theorem dX4_addLine_20 : decode cX4_addLine 20 = .ok (.putfield 45, 3) := by decide +kernel
theorem dX4_addLine_23 : decode cX4_addLine 23 = .ok (.aload_n 0, 1) := by decide +kernel
theorem dX4_addLine_24 : decode cX4_addLine 24 = .ok (.getfield 19, 3) := by decide +kernel
theorem dX4_addLine_27 : decode cX4_addLine 27 = .ok (.aload_n 0, 1) := by decide +kernel
theorem dX4_addLine_28 : decode cX4_addLine 28 = .ok (.getfield 10, 3) := by decide +kernel
theorem dX4_addLine_31 : decode cX4_addLine 31 = .ok (.invokevirtual 295, 3) := by decide +kernel
theorem dX4_addLine_34 : decode cX4_addLine 34 = .ok (.aload_n 0, 1) := by decide +kernel
theorem dX4_addLine_35 : decode cX4_addLine 35 = .ok (.getfield 26, 3) := by decide +kernel
theorem dX4_addLine_38 : decode cX4_addLine 38 = .ok (.aload_n 0, 1) := by decide +kernel
theorem dX4_addLine_39 : decode cX4_addLine 39 = .ok (.getfield 10, 3) := by decide +kernel
theorem dX4_addLine_42 : decode cX4_addLine 42 = .ok (.aload_n 0, 1) := by decide +kernel
theorem dX4_addLine_43 : decode cX4_addLine 43 = .ok (.getfield 19, 3) := by decide +kernel
theorem dX4_addLine_46 : decode cX4_addLine 46 = .ok (.iconst (-1), 1) := by decide +kernel
theorem dX4_addLine_47 : decode cX4_addLine 47 = .ok (.iconst 0, 1) := by decide +kernel
theorem dX4_addLine_48 : decode cX4_addLine 48 = .ok (.invokevirtual 97, 3) := by decide +kernel
theorem dX4_addLine_51 : decode cX4_addLine 51 = .ok (.iload 7, 2) := by decide +kernel
theorem dX4_addLine_53 : decode cX4_addLine 53 = .ok (.ireturn, 1) := by decide +kernel
theorem dX4_isWire_0 : decode cX4_isWire 0 = .ok (.iload_n 0, 1) := by decide +kernel
theorem dX4_isWire_1 : decode cX4_isWire 1 = .ok (.ifCond .lt 13, 3) := by decide +kernel
theorem dX4_isWire_4 : decode cX4_isWire 4 = .ok (.iload_n 0, 1) := by decide +kernel
theorem dX4_isWire_5 : decode cX4_isWire 5 = .ok (.bipush 24, 2) := by decide +kernel
theorem dX4_isWire_7 : decode cX4_isWire 7 = .ok (.if_icmp .ge 7, 3) := by decide +kernel
theorem dX4_isWire_10 : decode cX4_isWire 10 = .ok (.iconst 1, 1) := by decide +kernel
theorem dX4_isWire_11 : decode cX4_isWire 11 = .ok (.goto 4, 3) := by decide +kernel
theorem dX4_isWire_14 : decode cX4_isWire 14 = .ok (.iconst 0, 1) := by decide +kernel
theorem dX4_isWire_15 : decode cX4_isWire 15 = .ok (.ireturn, 1) := by decide +kernel
theorem dX4_isWithin_0 : decode cX4_isWithin 0 = .ok (.iload_n 0, 1) := by decide +kernel
theorem dX4_isWithin_1 : decode cX4_isWithin 1 = .ok (.ifCond .lt 12, 3) := by decide +kernel
theorem dX4_isWithin_4 : decode cX4_isWithin 4 = .ok (.iload_n 0, 1) := by decide +kernel
theorem dX4_isWithin_5 : decode cX4_isWithin 5 = .ok (.iload_n 1, 1) := by decide +kernel
theorem dX4_isWithin_6 : decode cX4_isWithin 6 = .ok (.if_icmp .gt 7, 3) := by decide +kernel
theorem dX4_isWithin_9 : decode cX4_isWithin 9 = .ok (.iconst 1, 1) := by decide +kernel
theorem dX4_isWithin_10 : decode cX4_isWithin 10 = .ok (.goto 4, 3) := by decide +kernel
theorem dX4_isWithin_13 : decode cX4_isWithin 13 = .ok (.iconst 0, 1) := by decide +kernel
theorem dX4_isWithin_14 : decode cX4_isWithin 14 = .ok (.ireturn, 1) := by decide +kernel
theorem dX4_checkWire_0 : decode cX4_checkWire 0 = .ok (.iload_n 0, 1) := by decide +kernel
theorem dX4_checkWire_1 : decode cX4_checkWire 1 = .ok (.invokestatic 298, 3) := by decide +kernel
theorem dX4_checkWire_4 : decode cX4_checkWire 4 = .ok (.ifCond .ne 14, 3) := by decide +kernel
theorem dX4_checkWire_7 : decode cX4_checkWire 7 = .ok (.new 106, 3) := by decide +kernel
theorem dX4_checkWire_10 : decode cX4_checkWire 10 = .ok (.dup, 1) := by decide +kernel
theorem dX4_checkWire_11 : decode cX4_checkWire 11 = .ok (.ldc_w 302, 3) := by decide +kernel
theorem dX4_checkWire_14 : decode cX4_checkWire 14 = .ok (.invokespecial 110, 3) := by decide +kernel
theorem dX4_checkWire_17 : decode cX4_checkWire 17 = .ok (.athrow, 1) := by decide +kernel
theorem dX4_checkWire_18 : decode cX4_checkWire 18 = .ok (.return_, 1) := by decide +kernel
theorem dX4_checkDelay_0 : decode cX4_checkDelay 0 = .ok (.iload_n 0, 1) := by decide +kernel
theorem dX4_checkDelay_1 : decode cX4_checkDelay 1 = .ok (.bipush 20, 2) := by decide +kernel
theorem dX4_checkDelay_3 : decode cX4_checkDelay 3 = .ok (.invokestatic 79, 3) := by decide +kernel
theorem dX4_checkDelay_6 : decode cX4_checkDelay 6 = .ok (.ifCond .ne 14, 3) := by decide +kernel
theorem dX4_checkDelay_9 : decode cX4_checkDelay 9 = .ok (.new 60, 3) := by decide +kernel
theorem dX4_checkDelay_12 : decode cX4_checkDelay 12 = .ok (.dup, 1) := by decide +kernel
theorem dX4_checkDelay_13 : decode cX4_checkDelay 13 = .ok (.ldc_w 304, 3) := by decide +kernel
theorem dX4_checkDelay_16 : decode cX4_checkDelay 16 = .ok (.invokespecial 64, 3) := by decide +kernel
theorem dX4_checkDelay_19 : decode cX4_checkDelay 19 = .ok (.athrow, 1) := by decide +kernel
theorem dX4_checkDelay_20 : decode cX4_checkDelay 20 = .ok (.return_, 1) := by decide +kernel
theorem dX4_checkRoom_0 : decode cX4_checkRoom 0 = .ok (.aload_n 0, 1) := by decide +kernel
theorem dX4_checkRoom_1 : decode cX4_checkRoom 1 = .ok (.getfield 10, 3) := by decide +kernel
theorem dX4_checkRoom_4 : decode cX4_checkRoom 4 = .ok (.getfield 101, 3) := by decide +kernel
theorem dX4_checkRoom_7 : decode cX4_checkRoom 7 = .ok (.bipush 30, 2) := by decide +kernel
theorem dX4_checkRoom_9 : decode cX4_checkRoom 9 = .ok (.if_icmp .lt 14, 3) := by decide +kernel
theorem dX4_checkRoom_12 : decode cX4_checkRoom 12 = .ok (.new 146, 3) := by decide +kernel
theorem dX4_checkRoom_15 : decode cX4_checkRoom 15 = .ok (.dup, 1) := by decide +kernel
theorem dX4_checkRoom_16 : decode cX4_checkRoom 16 = .ok (.ldc_w 306, 3) := by decide +kernel
theorem dX4_checkRoom_19 : decode cX4_checkRoom 19 = .ok (.invokespecial 150, 3) := by decide +kernel
theorem dX4_checkRoom_22 : decode cX4_checkRoom 22 = .ok (.athrow, 1) := by decide +kernel
theorem dX4_checkRoom_23 : decode cX4_checkRoom 23 = .ok (.return_, 1) := by decide +kernel
theorem dX4_checkLine_0 : decode cX4_checkLine 0 = .ok (.iload_n 1, 1) := by decide +kernel
theorem dX4_checkLine_1 : decode cX4_checkLine 1 = .ok (.ifCond .lt 14, 3) := by decide +kernel
theorem dX4_checkLine_4 : decode cX4_checkLine 4 = .ok (.iload_n 1, 1) := by decide +kernel
theorem dX4_checkLine_5 : decode cX4_checkLine 5 = .ok (.aload_n 0, 1) := by decide +kernel
theorem dX4_checkLine_6 : decode cX4_checkLine 6 = .ok (.getfield 10, 3) := by decide +kernel
theorem dX4_checkLine_9 : decode cX4_checkLine 9 = .ok (.getfield 101, 3) := by decide +kernel
theorem dX4_checkLine_12 : decode cX4_checkLine 12 = .ok (.if_icmp .lt 14, 3) := by decide +kernel
theorem dX4_checkLine_15 : decode cX4_checkLine 15 = .ok (.new 106, 3) := by decide +kernel
theorem dX4_checkLine_18 : decode cX4_checkLine 18 = .ok (.dup, 1) := by decide +kernel
theorem dX4_checkLine_19 : decode cX4_checkLine 19 = .ok (.ldc_w 308, 3) := by decide +kernel
theorem dX4_checkLine_22 : decode cX4_checkLine 22 = .ok (.invokespecial 110, 3) := by decide +kernel
theorem dX4_checkLine_25 : decode cX4_checkLine 25 = .ok (.athrow, 1) := by decide +kernel
theorem dX4_checkLine_26 : decode cX4_checkLine 26 = .ok (.return_, 1) := by decide +kernel
theorem dX4_checkHasDelay_0 : decode cX4_checkHasDelay 0 = .ok (.aload_n 0, 1) := by decide +kernel
theorem dX4_checkHasDelay_1 : decode cX4_checkHasDelay 1 = .ok (.getfield 10, 3) := by decide +kernel
theorem dX4_checkHasDelay_4 : decode cX4_checkHasDelay 4 = .ok (.getfield 73, 3) := by decide +kernel
theorem dX4_checkHasDelay_7 : decode cX4_checkHasDelay 7 = .ok (.iload_n 1, 1) := by decide +kernel
theorem dX4_checkHasDelay_8 : decode cX4_checkHasDelay 8 = .ok (.iaload, 1) := by decide +kernel
theorem dX4_checkHasDelay_9 : decode cX4_checkHasDelay 9 = .ok (.bipush 8, 2) := by decide +kernel
theorem dX4_checkHasDelay_11 : decode cX4_checkHasDelay 11 = .ok (.if_icmp .ne 14, 3) := by decide +kernel
theorem dX4_checkHasDelay_14 : decode cX4_checkHasDelay 14 = .ok (.new 60, 3) := by decide +kernel
theorem dX4_checkHasDelay_17 : decode cX4_checkHasDelay 17 = .ok (.dup, 1) := by decide +kernel
theorem dX4_checkHasDelay_18 : decode cX4_checkHasDelay 18 = .ok (.ldc_w 310, 3) := by decide +kernel
theorem dX4_checkHasDelay_21 : decode cX4_checkHasDelay 21 = .ok (.invokespecial 64, 3) := by decide +kernel
theorem dX4_checkHasDelay_24 : decode cX4_checkHasDelay 24 = .ok (.athrow, 1) := by decide +kernel
theorem dX4_checkHasDelay_25 : decode cX4_checkHasDelay 25 = .ok (.return_, 1) := by decide +kernel
theorem dX4_checkRunning_0 : decode cX4_checkRunning 0 = .ok (.aload_n 0, 1) := by decide +kernel
theorem dX4_checkRunning_1 : decode cX4_checkRunning 1 = .ok (.getfield 45, 3) := by decide +kernel
theorem dX4_checkRunning_4 : decode cX4_checkRunning 4 = .ok (.ifCond .ne 14, 3) := by decide +kernel
theorem dX4_checkRunning_7 : decode cX4_checkRunning 7 = .ok (.new 146, 3) := by decide +kernel
theorem dX4_checkRunning_10 : decode cX4_checkRunning 10 = .ok (.dup, 1) := by decide +kernel
theorem dX4_checkRunning_11 : decode cX4_checkRunning 11 = .ok (.ldc_w 312, 3) := by decide +kernel
theorem dX4_checkRunning_14 : decode cX4_checkRunning 14 = .ok (.invokespecial 150, 3) := by decide +kernel
theorem dX4_checkRunning_17 : decode cX4_checkRunning 17 = .ok (.athrow, 1) := by decide +kernel
theorem dX4_checkRunning_18 : decode cX4_checkRunning 18 = .ok (.return_, 1) := by decide +kernel
theorem dX4_checkSetting_0 : decode cX4_checkSetting 0 = .ok (.aload_n 0, 1) := by decide +kernel
theorem dX4_checkSetting_1 : decode cX4_checkSetting 1 = .ok (.getfield 10, 3) := by decide +kernel
theorem dX4_checkSetting_4 : decode cX4_checkSetting 4 = .ok (.iload_n 1, 1) := by decide +kernel
theorem dX4_checkSetting_5 : decode cX4_checkSetting 5 = .ok (.bipush 8, 2) := by decide +kernel
theorem dX4_checkSetting_7 : decode cX4_checkSetting 7 = .ok (.invokevirtual 314, 3) := by decide +kernel
theorem dX4_checkSetting_10 : decode cX4_checkSetting 10 = .ok (.ifCond .ne 14, 3) := by decide +kernel
theorem dX4_checkSetting_13 : decode cX4_checkSetting 13 = .ok (.new 60, 3) := by decide +kernel
theorem dX4_checkSetting_16 : decode cX4_checkSetting 16 = .ok (.dup, 1) := by decide +kernel
theorem dX4_checkSetting_17 : decode cX4_checkSetting 17 = .ok (.ldc_w 317, 3) := by decide +kernel
theorem dX4_checkSetting_20 : decode cX4_checkSetting 20 = .ok (.invokespecial 64, 3) := by decide +kernel
theorem dX4_checkSetting_23 : decode cX4_checkSetting 23 = .ok (.athrow, 1) := by decide +kernel
theorem dX4_checkSetting_24 : decode cX4_checkSetting 24 = .ok (.iload_n 2, 1) := by decide +kernel
theorem dX4_checkSetting_25 : decode cX4_checkSetting 25 = .ok (.ifCond .eq 19, 3) := by decide +kernel
theorem dX4_checkSetting_28 : decode cX4_checkSetting 28 = .ok (.iload_n 2, 1) := by decide +kernel
theorem dX4_checkSetting_29 : decode cX4_checkSetting 29 = .ok (.iconst 1, 1) := by decide +kernel
theorem dX4_checkSetting_30 : decode cX4_checkSetting 30 = .ok (.if_icmp .eq 14, 3) := by decide +kernel
theorem dX4_checkSetting_33 : decode cX4_checkSetting 33 = .ok (.new 60, 3) := by decide +kernel
theorem dX4_checkSetting_36 : decode cX4_checkSetting 36 = .ok (.dup, 1) := by decide +kernel
theorem dX4_checkSetting_37 : decode cX4_checkSetting 37 = .ok (.ldc_w 319, 3) := by decide +kernel
theorem dX4_checkSetting_40 : decode cX4_checkSetting 40 = .ok (.invokespecial 64, 3) := by decide +kernel
theorem dX4_checkSetting_43 : decode cX4_checkSetting 43 = .ok (.athrow, 1) := by decide +kernel
theorem dX4_checkSetting_44 : decode cX4_checkSetting 44 = .ok (.return_, 1) := by decide +kernel
theorem dX5_init_0 : decode cX5_init 0 = .ok (.aload_n 0, 1) := by decide +kernel
theorem dX5_init_1 : decode cX5_init 1 = .ok (.invokespecial 1, 3) := by decide +kernel
theorem dX5_init_4 : decode cX5_init 4 = .ok (.aload_n 0, 1) := by decide +kernel
theorem dX5_init_5 : decode cX5_init 5 = .ok (.new 7, 3) := by decide +kernel
theorem dX5_init_8 : decode cX5_init 8 = .ok (.dup, 1) := by decide +kernel
theorem dX5_init_9 : decode cX5_init 9 = .ok (.invokespecial 9, 3) := by decide +kernel
theorem dX5_init_12 : decode cX5_init 12 = .ok (.putfield 10, 3) := by decide +kernel
theorem dX5_init_15 : decode cX5_init 15 = .ok (.aload_n 0, 1) := by decide +kernel
theorem dX5_init_16 : decode cX5_init 16 = .ok (.bipush 30, 2) := by decide +kernel
theorem dX5_init_18 : decode cX5_init 18 = .ok (.anewarray 16, 3) := by decide +kernel
theorem dX5_init_21 : decode cX5_init 21 = .ok (.putfield 18, 3) := by decide +kernel
theorem dX5_init_24 : decode cX5_init 24 = .ok (.aload_n 0, 1) := by decide +kernel
theorem dX5_init_25 : decode cX5_init 25 = .ok (.bipush 24, 2) := by decide +kernel
theorem dX5_init_27 : decode cX5_init 27 = .ok (.anewarray 16, 3) := by decide +kernel
theorem dX5_init_30 : decode cX5_init 30 = .ok (.putfield 22, 3) := by decide +kernel
theorem dX5_init_33 : decode cX5_init 33 = .ok (.aload_n 0, 1) := by decide +kernel
theorem dX5_init_34 : decode cX5_init 34 = .ok (.iconst 0, 1) := by decide +kernel
theorem dX5_init_35 : decode cX5_init 35 = .ok (.anewarray 16, 3) := by decide +kernel
theorem dX5_init_38 : decode cX5_init 38 = .ok (.putfield 25, 3) := by decide +kernel
theorem dX5_init_41 : decode cX5_init 41 = .ok (.aload_n 0, 1) := by decide +kernel
theorem dX5_init_42 : decode cX5_init 42 = .ok (.bipush 30, 2) := by decide +kernel
theorem dX5_init_44 : decode cX5_init 44 = .ok (.newarray .int, 2) := by decide +kernel
theorem dX5_init_46 : decode cX5_init 46 = .ok (.putfield 28, 3) := by decide +kernel
theorem dX5_init_49 : decode cX5_init 49 = .ok (.aload_n 0, 1) := by decide +kernel
theorem dX5_init_50 : decode cX5_init 50 = .ok (.iconst 0, 1) := by decide +kernel
theorem dX5_init_51 : decode cX5_init 51 = .ok (.anewarray 16, 3) := by decide +kernel
theorem dX5_init_54 : decode cX5_init 54 = .ok (.putfield 31, 3) := by decide +kernel
theorem dX5_init_57 : decode cX5_init 57 = .ok (.aload_n 0, 1) := by decide +kernel
theorem dX5_init_58 : decode cX5_init 58 = .ok (.aload_n 1, 1) := by decide +kernel
theorem dX5_init_59 : decode cX5_init 59 = .ok (.putfield 34, 3) := by decide +kernel
theorem dX5_init_62 : decode cX5_init 62 = .ok (.aload_n 0, 1) := by decide +kernel
theorem dX5_init_63 : decode cX5_init 63 = .ok (.iload_n 2, 1) := by decide +kernel
theorem dX5_init_64 : decode cX5_init 64 = .ok (.putfield 37, 3) := by decide +kernel
theorem dX5_init_67 : decode cX5_init 67 = .ok (.aload_n 0, 1) := by decide +kernel
theorem dX5_init_68 : decode cX5_init 68 = .ok (.invokevirtual 41, 3) := by decide +kernel
theorem dX5_init_71 : decode cX5_init 71 = .ok (.return_, 1) := by decide +kernel
theorem dX5_draw_0 : decode cX5_draw 0 = .ok (.aload_n 0, 1) := by decide +kernel
theorem dX5_draw_1 : decode cX5_draw 1 = .ok (.getfield 34, 3) := by decide +kernel
theorem dX5_draw_4 : decode cX5_draw 4 = .ok (.aload_n 0, 1) := by decide +kernel
theorem dX5_draw_5 : decode cX5_draw 5 = .ok (.getfield 37, 3) := by decide +kernel
theorem dX5_draw_8 : decode cX5_draw 8 = .ok (.bipush 24, 2) := by decide +kernel
theorem dX5_draw_10 : decode cX5_draw 10 = .ok (.irem, 1) := by decide +kernel
theorem dX5_draw_11 : decode cX5_draw 11 = .ok (.invokestatic 44, 3) := by decide +kernel
theorem dX5_draw_14 : decode cX5_draw 14 = .ok (.aload_n 0, 1) := by decide +kernel
theorem dX5_draw_15 : decode cX5_draw 15 = .ok (.getfield 37, 3) := by decide +kernel
theorem dX5_draw_18 : decode cX5_draw 18 = .ok (.bipush 24, 2) := by decide +kernel
theorem dX5_draw_20 : decode cX5_draw 20 = .ok (.idiv, 1) := by decide +kernel
theorem dX5_draw_21 : decode cX5_draw 21 = .ok (.bipush 8, 2) := by decide +kernel
theorem dX5_draw_23 : decode cX5_draw 23 = .ok (.irem, 1) := by decide +kernel
theorem dX5_draw_24 : decode cX5_draw 24 = .ok (.ishr, 1) := by decide +kernel
theorem dX5_draw_25 : decode cX5_draw 25 = .ok (.bipush 113, 2) := by decide +kernel
theorem dX5_draw_27 : decode cX5_draw 27 = .ok (.aload_n 0, 1) := by decide +kernel
theorem dX5_draw_28 : decode cX5_draw 28 = .ok (.getfield 37, 3) := by decide +kernel
theorem dX5_draw_31 : decode cX5_draw 31 = .ok (.imul, 1) := by decide +kernel
theorem dX5_draw_32 : decode cX5_draw 32 = .ok (.iadd, 1) := by decide +kernel
theorem dX5_draw_33 : decode cX5_draw 33 = .ok (.iload_n 1, 1) := by decide +kernel
theorem dX5_draw_34 : decode cX5_draw 34 = .ok (.invokestatic 50, 3) := by decide +kernel
theorem dX5_draw_37 : decode cX5_draw 37 = .ok (.istore_n 2, 1) := by decide +kernel
theorem dX5_draw_38 : decode cX5_draw 38 = .ok (.aload_n 0, 1) := by decide +kernel
theorem dX5_draw_39 : decode cX5_draw 39 = .ok (.dup, 1) := by decide +kernel
theorem dX5_draw_40 : decode cX5_draw 40 = .ok (.getfield 37, 3) := by decide +kernel
theorem dX5_draw_43 : decode cX5_draw 43 = .ok (.iconst 1, 1) := by decide +kernel
theorem dX5_draw_44 : decode cX5_draw 44 = .ok (.iadd, 1) := by decide +kernel
theorem dX5_draw_45 : decode cX5_draw 45 = .ok (.putfield 37, 3) := by decide +kernel
theorem dX5_draw_48 : decode cX5_draw 48 = .ok (.iload_n 2, 1) := by decide +kernel
theorem dX5_draw_49 : decode cX5_draw 49 = .ok (.ireturn, 1) := by decide +kernel
theorem dX5_with_0 : decode cX5_with 0 = .ok (.aload_n 0, 1) := by decide +kernel
theorem dX5_with_1 : decode cX5_with 1 = .ok (.arraylength, 1) := by decide +kernel
theorem dX5_with_2 : decode cX5_with 2 = .ok (.iconst 1, 1) := by decide +kernel
theorem dX5_with_3 : decode cX5_with 3 = .ok (.iadd, 1) := by decide +kernel
theorem dX5_with_4 : decode cX5_with 4 = .ok (.anewarray 16, 3) := by decide +kernel
theorem dX5_with_7 : decode cX5_with 7 = .ok (.astore_n 3, 1) := by decide +kernel
theorem dX5_with_8 : decode cX5_with 8 = .ok (.aload_n 0, 1) := by decide +kernel
theorem dX5_with_9 : decode cX5_with 9 = .ok (.iconst 0, 1) := by decide +kernel
theorem dX5_with_10 : decode cX5_with 10 = .ok (.aload_n 3, 1) := by decide +kernel
theorem dX5_with_11 : decode cX5_with 11 = .ok (.iconst 0, 1) := by decide +kernel
theorem dX5_with_12 : decode cX5_with 12 = .ok (.iload_n 1, 1) := by decide +kernel
theorem dX5_with_13 : decode cX5_with 13 = .ok (.invokestatic 54, 3) := by decide +kernel
theorem dX5_with_16 : decode cX5_with 16 = .ok (.aload_n 3, 1) := by decide +kernel
theorem dX5_with_17 : decode cX5_with 17 = .ok (.iload_n 1, 1) := by decide +kernel
theorem dX5_with_18 : decode cX5_with 18 = .ok (.aload_n 2, 1) := by decide +kernel
theorem dX5_with_19 : decode cX5_with 19 = .ok (.aastore, 1) := by decide +kernel
theorem dX5_with_20 : decode cX5_with 20 = .ok (.aload_n 0, 1) := by decide +kernel
theorem dX5_with_21 : decode cX5_with 21 = .ok (.iload_n 1, 1) := by decide +kernel
theorem dX5_with_22 : decode cX5_with 22 = .ok (.aload_n 3, 1) := by decide +kernel
theorem dX5_with_23 : decode cX5_with 23 = .ok (.iload_n 1, 1) := by decide +kernel
theorem dX5_with_24 : decode cX5_with 24 = .ok (.iconst 1, 1) := by decide +kernel
theorem dX5_with_25 : decode cX5_with 25 = .ok (.iadd, 1) := by decide +kernel
theorem dX5_with_26 : decode cX5_with 26 = .ok (.aload_n 0, 1) := by decide +kernel
theorem dX5_with_27 : decode cX5_with 27 = .ok (.arraylength, 1) := by decide +kernel
theorem dX5_with_28 : decode cX5_with 28 = .ok (.iload_n 1, 1) := by decide +kernel
theorem dX5_with_29 : decode cX5_with 29 = .ok (.isub, 1) := by decide +kernel
theorem dX5_with_30 : decode cX5_with 30 = .ok (.invokestatic 54, 3) := by decide +kernel
theorem dX5_with_33 : decode cX5_with 33 = .ok (.aload_n 3, 1) := by decide +kernel
theorem dX5_with_34 : decode cX5_with 34 = .ok (.areturn, 1) := by decide +kernel
theorem dX5_without_0 : decode cX5_without 0 = .ok (.aload_n 0, 1) := by decide +kernel
theorem dX5_without_1 : decode cX5_without 1 = .ok (.arraylength, 1) := by decide +kernel
theorem dX5_without_2 : decode cX5_without 2 = .ok (.iconst 1, 1) := by decide +kernel
theorem dX5_without_3 : decode cX5_without 3 = .ok (.isub, 1) := by decide +kernel
theorem dX5_without_4 : decode cX5_without 4 = .ok (.anewarray 16, 3) := by decide +kernel
theorem dX5_without_7 : decode cX5_without 7 = .ok (.astore_n 2, 1) := by decide +kernel
theorem dX5_without_8 : decode cX5_without 8 = .ok (.aload_n 0, 1) := by decide +kernel
theorem dX5_without_9 : decode cX5_without 9 = .ok (.iconst 0, 1) := by decide +kernel
theorem dX5_without_10 : decode cX5_without 10 = .ok (.aload_n 2, 1) := by decide +kernel
theorem dX5_without_11 : decode cX5_without 11 = .ok (.iconst 0, 1) := by decide +kernel
theorem dX5_without_12 : decode cX5_without 12 = .ok (.iload_n 1, 1) := by decide +kernel
theorem dX5_without_13 : decode cX5_without 13 = .ok (.invokestatic 54, 3) := by decide +kernel
theorem dX5_without_16 : decode cX5_without 16 = .ok (.aload_n 0, 1) := by decide +kernel
theorem dX5_without_17 : decode cX5_without 17 = .ok (.iload_n 1, 1) := by decide +kernel
theorem dX5_without_18 : decode cX5_without 18 = .ok (.iconst 1, 1) := by decide +kernel
theorem dX5_without_19 : decode cX5_without 19 = .ok (.iadd, 1) := by decide +kernel
theorem dX5_without_20 : decode cX5_without 20 = .ok (.aload_n 2, 1) := by decide +kernel
theorem dX5_without_21 : decode cX5_without 21 = .ok (.iload_n 1, 1) := by decide +kernel
theorem dX5_without_22 : decode cX5_without 22 = .ok (.aload_n 2, 1) := by decide +kernel
theorem dX5_without_23 : decode cX5_without 23 = .ok (.arraylength, 1) := by decide +kernel
theorem dX5_without_24 : decode cX5_without 24 = .ok (.iload_n 1, 1) := by decide +kernel
theorem dX5_without_25 : decode cX5_without 25 = .ok (.isub, 1) := by decide +kernel
theorem dX5_without_26 : decode cX5_without 26 = .ok (.invokestatic 54, 3) := by decide +kernel
theorem dX5_without_29 : decode cX5_without 29 = .ok (.aload_n 2, 1) := by decide +kernel
theorem dX5_without_30 : decode cX5_without 30 = .ok (.areturn, 1) := by decide +kernel
theorem dX5_clear_0 : decode cX5_clear 0 = .ok (.aload_n 0, 1) := by decide +kernel
theorem dX5_clear_1 : decode cX5_clear 1 = .ok (.iconst 0, 1) := by decide +kernel
theorem dX5_clear_2 : decode cX5_clear 2 = .ok (.putfield 60, 3) := by decide +kernel
theorem dX5_clear_5 : decode cX5_clear 5 = .ok (.aload_n 0, 1) := by decide +kernel
theorem dX5_clear_6 : decode cX5_clear 6 = .ok (.iconst 0, 1) := by decide +kernel
theorem dX5_clear_7 : decode cX5_clear 7 = .ok (.putfield 63, 3) := by decide +kernel
theorem dX5_clear_10 : decode cX5_clear 10 = .ok (.aload_n 0, 1) := by decide +kernel
theorem dX5_clear_11 : decode cX5_clear 11 = .ok (.iconst 0, 1) := by decide +kernel
theorem dX5_clear_12 : decode cX5_clear 12 = .ok (.putfield 66, 3) := by decide +kernel
theorem dX5_clear_15 : decode cX5_clear 15 = .ok (.aload_n 0, 1) := by decide +kernel
theorem dX5_clear_16 : decode cX5_clear 16 = .ok (.iconst 0, 1) := by decide +kernel
theorem dX5_clear_17 : decode cX5_clear 17 = .ok (.putfield 69, 3) := by decide +kernel
theorem dX5_clear_20 : decode cX5_clear 20 = .ok (.aload_n 0, 1) := by decide +kernel
theorem dX5_clear_21 : decode cX5_clear 21 = .ok (.iconst 0, 1) := by decide +kernel
theorem dX5_clear_22 : decode cX5_clear 22 = .ok (.anewarray 16, 3) := by decide +kernel
theorem dX5_clear_25 : decode cX5_clear 25 = .ok (.putfield 25, 3) := by decide +kernel
theorem dX5_clear_28 : decode cX5_clear 28 = .ok (.aload_n 0, 1) := by decide +kernel
theorem dX5_clear_29 : decode cX5_clear 29 = .ok (.iconst 0, 1) := by decide +kernel
theorem dX5_clear_30 : decode cX5_clear 30 = .ok (.anewarray 16, 3) := by decide +kernel
theorem dX5_clear_33 : decode cX5_clear 33 = .ok (.putfield 31, 3) := by decide +kernel
theorem dX5_clear_36 : decode cX5_clear 36 = .ok (.iconst 0, 1) := by decide +kernel
theorem dX5_clear_37 : decode cX5_clear 37 = .ok (.istore_n 1, 1) := by decide +kernel
theorem dX5_clear_38 : decode cX5_clear 38 = .ok (.iload_n 1, 1) := by decide +kernel
theorem dX5_clear_39 : decode cX5_clear 39 = .ok (.bipush 24, 2) := by decide +kernel
theorem dX5_clear_41 : decode cX5_clear 41 = .ok (.if_icmp .ge 36, 3) := by decide +kernel
theorem dX5_clear_44 : decode cX5_clear 44 = .ok (.iconst 4, 1) := by decide +kernel
theorem dX5_clear_45 : decode cX5_clear 45 = .ok (.newarray .int, 2) := by decide +kernel
theorem dX5_clear_47 : decode cX5_clear 47 = .ok (.dup, 1) := by decide +kernel
theorem dX5_clear_48 : decode cX5_clear 48 = .ok (.iconst 0, 1) := by decide +kernel
theorem dX5_clear_49 : decode cX5_clear 49 = .ok (.iconst 2, 1) := by decide +kernel
theorem dX5_clear_50 : decode cX5_clear 50 = .ok (.iastore, 1) := by decide +kernel
theorem dX5_clear_51 : decode cX5_clear 51 = .ok (.dup, 1) := by decide +kernel
theorem dX5_clear_52 : decode cX5_clear 52 = .ok (.iconst 1, 1) := by decide +kernel
theorem dX5_clear_53 : decode cX5_clear 53 = .ok (.iconst (-1), 1) := by decide +kernel
theorem dX5_clear_54 : decode cX5_clear 54 = .ok (.iastore, 1) := by decide +kernel
theorem dX5_clear_55 : decode cX5_clear 55 = .ok (.dup, 1) := by decide +kernel
theorem dX5_clear_56 : decode cX5_clear 56 = .ok (.iconst 2, 1) := by decide +kernel
theorem dX5_clear_57 : decode cX5_clear 57 = .ok (.iconst 0, 1) := by decide +kernel
theorem dX5_clear_58 : decode cX5_clear 58 = .ok (.iastore, 1) := by decide +kernel
theorem dX5_clear_59 : decode cX5_clear 59 = .ok (.dup, 1) := by decide +kernel
theorem dX5_clear_60 : decode cX5_clear 60 = .ok (.iconst 3, 1) := by decide +kernel
theorem dX5_clear_61 : decode cX5_clear 61 = .ok (.iconst 2, 1) := by decide +kernel
theorem dX5_clear_62 : decode cX5_clear 62 = .ok (.iastore, 1) := by decide +kernel
theorem dX5_clear_63 : decode cX5_clear 63 = .ok (.astore_n 2, 1) := by decide +kernel
theorem dX5_clear_64 : decode cX5_clear 64 = .ok (.aload_n 0, 1) := by decide +kernel
theorem dX5_clear_65 : decode cX5_clear 65 = .ok (.getfield 22, 3) := by decide +kernel
theorem dX5_clear_68 : decode cX5_clear 68 = .ok (.iload_n 1, 1) := by decide +kernel
theorem dX5_clear_69 : decode cX5_clear 69 = .ok (.aload_n 2, 1) := by decide +kernel
theorem dX5_clear_70 : decode cX5_clear 70 = .ok (.aastore, 1) := by decide +kernel
theorem dX5_clear_71 : decode cX5_clear 71 = .ok (.iinc 1 1, 3) := by decide +kernel
theorem dX5_clear_74 : decode cX5_clear 74 = .ok (.goto (-36), 3) := by decide +kernel
theorem dX5_clear_77 : decode cX5_clear 77 = .ok (.iconst 0, 1) := by decide +kernel
theorem dX5_clear_78 : decode cX5_clear 78 = .ok (.istore_n 1, 1) := by decide +kernel
theorem dX5_clear_79 : decode cX5_clear 79 = .ok (.iload_n 1, 1) := by decide +kernel
theorem dX5_clear_80 : decode cX5_clear 80 = .ok (.bipush 30, 2) := by decide +kernel
theorem dX5_clear_82 : decode cX5_clear 82 = .ok (.if_icmp .ge 18, 3) := by decide +kernel
theorem dX5_clear_85 : decode cX5_clear 85 = .ok (.aload_n 0, 1) := by decide +kernel
theorem dX5_clear_86 : decode cX5_clear 86 = .ok (.getfield 28, 3) := by decide +kernel
theorem dX5_clear_89 : decode cX5_clear 89 = .ok (.iload_n 1, 1) := by decide +kernel
theorem dX5_clear_90 : decode cX5_clear 90 = .ok (.sipush (-1000), 3) := by decide +kernel
theorem dX5_clear_93 : decode cX5_clear 93 = .ok (.iastore, 1) := by decide +kernel
theorem dX5_clear_94 : decode cX5_clear 94 = .ok (.iinc 1 1, 3) := by decide +kernel
theorem dX5_clear_97 : decode cX5_clear 97 = .ok (.goto (-18), 3) := by decide +kernel
theorem dX5_clear_100 : decode cX5_clear 100 = .ok (.return_, 1) := by decide +kernel
theorem dX5_put_0 : decode cX5_put 0 = .ok (.bipush 8, 2) := by decide +kernel
theorem dX5_put_2 : decode cX5_put 2 = .ok (.newarray .int, 2) := by decide +kernel
theorem dX5_put_4 : decode cX5_put 4 = .ok (.dup, 1) := by decide +kernel
theorem dX5_put_5 : decode cX5_put 5 = .ok (.iconst 0, 1) := by decide +kernel
theorem dX5_put_6 : decode cX5_put 6 = .ok (.iload_n 1, 1) := by decide +kernel
theorem dX5_put_7 : decode cX5_put 7 = .ok (.iastore, 1) := by decide +kernel
theorem dX5_put_8 : decode cX5_put 8 = .ok (.dup, 1) := by decide +kernel
theorem dX5_put_9 : decode cX5_put 9 = .ok (.iconst 1, 1) := by decide +kernel
theorem dX5_put_10 : decode cX5_put 10 = .ok (.iload_n 2, 1) := by decide +kernel
theorem dX5_put_11 : decode cX5_put 11 = .ok (.iastore, 1) := by decide +kernel
theorem dX5_put_12 : decode cX5_put 12 = .ok (.dup, 1) := by decide +kernel
theorem dX5_put_13 : decode cX5_put 13 = .ok (.iconst 2, 1) := by decide +kernel
theorem dX5_put_14 : decode cX5_put 14 = .ok (.iload_n 3, 1) := by decide +kernel
theorem dX5_put_15 : decode cX5_put 15 = .ok (.iastore, 1) := by decide +kernel
theorem dX5_put_16 : decode cX5_put 16 = .ok (.dup, 1) := by decide +kernel
theorem dX5_put_17 : decode cX5_put 17 = .ok (.iconst 3, 1) := by decide +kernel
theorem dX5_put_18 : decode cX5_put 18 = .ok (.iload 4, 2) := by decide +kernel
theorem dX5_put_20 : decode cX5_put 20 = .ok (.iastore, 1) := by decide +kernel
theorem dX5_put_21 : decode cX5_put 21 = .ok (.dup, 1) := by decide +kernel
theorem dX5_put_22 : decode cX5_put 22 = .ok (.iconst 4, 1) := by decide +kernel
theorem dX5_put_23 : decode cX5_put 23 = .ok (.iload 5, 2) := by decide +kernel
theorem dX5_put_25 : decode cX5_put 25 = .ok (.iastore, 1) := by decide +kernel
theorem dX5_put_26 : decode cX5_put 26 = .ok (.dup, 1) := by decide +kernel
theorem dX5_put_27 : decode cX5_put 27 = .ok (.iconst 5, 1) := by decide +kernel
theorem dX5_put_28 : decode cX5_put 28 = .ok (.iload 6, 2) := by decide +kernel
theorem dX5_put_30 : decode cX5_put 30 = .ok (.iastore, 1) := by decide +kernel
theorem dX5_put_31 : decode cX5_put 31 = .ok (.dup, 1) := by decide +kernel
theorem dX5_put_32 : decode cX5_put 32 = .ok (.bipush 6, 2) := by decide +kernel
theorem dX5_put_34 : decode cX5_put 34 = .ok (.iconst 0, 1) := by decide +kernel
theorem dX5_put_35 : decode cX5_put 35 = .ok (.iastore, 1) := by decide +kernel
theorem dX5_put_36 : decode cX5_put 36 = .ok (.dup, 1) := by decide +kernel
theorem dX5_put_37 : decode cX5_put 37 = .ok (.bipush 7, 2) := by decide +kernel
theorem dX5_put_39 : decode cX5_put 39 = .ok (.iconst 0, 1) := by decide +kernel
theorem dX5_put_40 : decode cX5_put 40 = .ok (.iastore, 1) := by decide +kernel
theorem dX5_put_41 : decode cX5_put 41 = .ok (.astore 7, 2) := by decide +kernel
theorem dX5_put_43 : decode cX5_put 43 = .ok (.aload_n 0, 1) := by decide +kernel
theorem dX5_put_44 : decode cX5_put 44 = .ok (.getfield 18, 3) := by decide +kernel
theorem dX5_put_47 : decode cX5_put 47 = .ok (.aload_n 0, 1) := by decide +kernel
theorem dX5_put_48 : decode cX5_put 48 = .ok (.getfield 72, 3) := by decide +kernel
theorem dX5_put_51 : decode cX5_put 51 = .ok (.aload 7, 2) := by decide +kernel
theorem dX5_put_53 : decode cX5_put 53 = .ok (.aastore, 1) := by decide +kernel
theorem dX5_put_54 : decode cX5_put 54 = .ok (.aload_n 0, 1) := by decide +kernel
theorem dX5_put_55 : decode cX5_put 55 = .ok (.iconst 0, 1) := by decide +kernel
theorem dX5_put_56 : decode cX5_put 56 = .ok (.putfield 75, 3) := by decide +kernel
theorem dX5_put_59 : decode cX5_put 59 = .ok (.iload_n 1, 1) := by decide +kernel
theorem dX5_put_60 : decode cX5_put 60 = .ok (.iconst (-1), 1) := by decide +kernel
theorem dX5_put_61 : decode cX5_put 61 = .ok (.if_icmp .ne 14, 3) := by decide +kernel
theorem dX5_put_64 : decode cX5_put 64 = .ok (.aload_n 0, 1) := by decide +kernel
theorem dX5_put_65 : decode cX5_put 65 = .ok (.getfield 10, 3) := by decide +kernel
theorem dX5_put_68 : decode cX5_put 68 = .ok (.iload_n 2, 1) := by decide +kernel
theorem dX5_put_69 : decode cX5_put 69 = .ok (.invokevirtual 79, 3) := by decide +kernel
theorem dX5_put_72 : decode cX5_put 72 = .ok (.goto 43, 3) := by decide +kernel
theorem dX5_put_75 : decode cX5_put 75 = .ok (.iload_n 1, 1) := by decide +kernel
theorem dX5_put_76 : decode cX5_put 76 = .ok (.bipush (-2), 2) := by decide +kernel
theorem dX5_put_78 : decode cX5_put 78 = .ok (.if_icmp .ne 21, 3) := by decide +kernel
theorem dX5_put_81 : decode cX5_put 81 = .ok (.aload_n 0, 1) := by decide +kernel
theorem dX5_put_82 : decode cX5_put 82 = .ok (.getfield 10, 3) := by decide +kernel
theorem dX5_put_85 : decode cX5_put 85 = .ok (.iload_n 2, 1) := by decide +kernel
theorem dX5_put_86 : decode cX5_put 86 = .ok (.iload_n 3, 1) := by decide +kernel
theorem dX5_put_87 : decode cX5_put 87 = .ok (.iload 4, 2) := by decide +kernel
theorem dX5_put_89 : decode cX5_put 89 = .ok (.iload 5, 2) := by decide +kernel
theorem dX5_put_91 : decode cX5_put 91 = .ok (.iload 6, 2) := by decide +kernel
theorem dX5_put_93 : decode cX5_put 93 = .ok (.invokevirtual 83, 3) := by decide +kernel
theorem dX5_put_96 : decode cX5_put 96 = .ok (.goto 19, 3) := by decide +kernel
theorem dX5_put_99 : decode cX5_put 99 = .ok (.aload_n 0, 1) := by decide +kernel
theorem dX5_put_100 : decode cX5_put 100 = .ok (.getfield 10, 3) := by decide +kernel
theorem dX5_put_103 : decode cX5_put 103 = .ok (.iload_n 1, 1) := by decide +kernel
theorem dX5_put_104 : decode cX5_put 104 = .ok (.iload_n 2, 1) := by decide +kernel
theorem dX5_put_105 : decode cX5_put 105 = .ok (.iload_n 3, 1) := by decide +kernel
theorem dX5_put_106 : decode cX5_put 106 = .ok (.iload 4, 2) := by decide +kernel
theorem dX5_put_108 : decode cX5_put 108 = .ok (.iload 5, 2) := by decide +kernel
theorem dX5_put_110 : decode cX5_put 110 = .ok (.iload 6, 2) := by decide +kernel
theorem dX5_put_112 : decode cX5_put 112 = .ok (.invokevirtual 87, 3) := by decide +kernel
theorem dX5_put_115 : decode cX5_put 115 = .ok (.istore 8, 2) := by decide +kernel
theorem dX5_put_117 : decode cX5_put 117 = .ok (.iload 8, 2) := by decide +kernel
theorem dX5_put_119 : decode cX5_put 119 = .ok (.aload_n 0, 1) := by decide +kernel
theorem dX5_put_120 : decode cX5_put 120 = .ok (.dup, 1) := by decide +kernel
theorem dX5_put_121 : decode cX5_put 121 = .ok (.getfield 72, 3) := by decide +kernel
theorem dX5_put_124 : decode cX5_put 124 = .ok (.dup_x1, 1) := by decide +kernel
theorem dX5_put_125 : decode cX5_put 125 = .ok (.iconst 1, 1) := by decide +kernel
theorem dX5_put_126 : decode cX5_put 126 = .ok (.iadd, 1) := by decide +kernel
theorem dX5_put_127 : decode cX5_put 127 = .ok (.putfield 72, 3) := by decide +kernel
theorem dX5_put_130 : decode cX5_put 130 = .ok (.if_icmp .ne 7, 3) := by decide +kernel
theorem dX5_put_133 : decode cX5_put 133 = .ok (.iconst 1, 1) := by decide +kernel
theorem dX5_put_134 : decode cX5_put 134 = .ok (.goto 4, 3) := by decide +kernel
theorem dX5_put_137 : decode cX5_put 137 = .ok (.iconst 0, 1) := by decide +kernel
theorem dX5_put_138 : decode cX5_put 138 = .ok (.ireturn, 1) := by decide +kernel
theorem dX5_found_0 : decode cX5_found 0 = .ok (.iconst 0, 1) := by decide +kernel
theorem dX5_found_1 : decode cX5_found 1 = .ok (.istore_n 2, 1) := by decide +kernel
theorem dX5_found_2 : decode cX5_found 2 = .ok (.iload_n 2, 1) := by decide +kernel
theorem dX5_found_3 : decode cX5_found 3 = .ok (.iconst 4, 1) := by decide +kernel
theorem dX5_found_4 : decode cX5_found 4 = .ok (.if_icmp .ge 24, 3) := by decide +kernel
theorem dX5_found_7 : decode cX5_found 7 = .ok (.aload_n 0, 1) := by decide +kernel
theorem dX5_found_8 : decode cX5_found 8 = .ok (.iconst (-1), 1) := by decide +kernel
theorem dX5_found_9 : decode cX5_found 9 = .ok (.iload_n 2, 1) := by decide +kernel
theorem dX5_found_10 : decode cX5_found 10 = .ok (.iconst (-1), 1) := by decide +kernel
theorem dX5_found_11 : decode cX5_found 11 = .ok (.iconst (-1), 1) := by decide +kernel
theorem dX5_found_12 : decode cX5_found 12 = .ok (.iconst (-1), 1) := by decide +kernel
theorem dX5_found_13 : decode cX5_found 13 = .ok (.iconst 0, 1) := by decide +kernel
theorem dX5_found_14 : decode cX5_found 14 = .ok (.invokevirtual 91, 3) := by decide +kernel
theorem dX5_found_17 : decode cX5_found 17 = .ok (.ifCond .ne 5, 3) := by decide +kernel
theorem dX5_found_20 : decode cX5_found 20 = .ok (.iconst 0, 1) := by decide +kernel
theorem dX5_found_21 : decode cX5_found 21 = .ok (.ireturn, 1) := by decide +kernel
theorem dX5_found_22 : decode cX5_found 22 = .ok (.iinc 2 1, 3) := by decide +kernel
theorem dX5_found_25 : decode cX5_found 25 = .ok (.goto (-23), 3) := by decide +kernel
theorem dX5_found_28 : decode cX5_found 28 = .ok (.bipush 12, 2) := by decide +kernel
theorem dX5_found_30 : decode cX5_found 30 = .ok (.aload_n 0, 1) := by decide +kernel
theorem dX5_found_31 : decode cX5_found 31 = .ok (.bipush 6, 2) := by decide +kernel
theorem dX5_found_33 : decode cX5_found 33 = .ok (.invokevirtual 95, 3) := by decide +kernel
theorem dX5_found_36 : decode cX5_found 36 = .ok (.iadd, 1) := by decide +kernel
theorem dX5_found_37 : decode cX5_found 37 = .ok (.istore_n 2, 1) := by decide +kernel
theorem dX5_found_38 : decode cX5_found 38 = .ok (.iconst 4, 1) := by decide +kernel
theorem dX5_found_39 : decode cX5_found 39 = .ok (.istore_n 3, 1) := by decide +kernel
theorem dX5_found_40 : decode cX5_found 40 = .ok (.iload_n 3, 1) := by decide +kernel
theorem dX5_found_41 : decode cX5_found 41 = .ok (.iload_n 2, 1) := by decide +kernel
theorem dX5_found_42 : decode cX5_found 42 = .ok (.if_icmp .ge 155, 3) := by decide +kernel
theorem dX5_found_45 : decode cX5_found 45 = .ok (.aload_n 0, 1) := by decide +kernel
theorem dX5_found_46 : decode cX5_found 46 = .ok (.iconst 5, 1) := by decide +kernel
theorem dX5_found_47 : decode cX5_found 47 = .ok (.invokevirtual 95, 3) := by decide +kernel
theorem dX5_found_50 : decode cX5_found 50 = .ok (.istore 4, 2) := by decide +kernel
theorem dX5_found_52 : decode cX5_found 52 = .ok (.aload_n 0, 1) := by decide +kernel
theorem dX5_found_53 : decode cX5_found 53 = .ok (.bipush 9, 2) := by decide +kernel
theorem dX5_found_55 : decode cX5_found 55 = .ok (.invokevirtual 95, 3) := by decide +kernel
theorem dX5_found_58 : decode cX5_found 58 = .ok (.istore 5, 2) := by decide +kernel
theorem dX5_found_60 : decode cX5_found 60 = .ok (.iload_n 1, 1) := by decide +kernel
theorem dX5_found_61 : decode cX5_found 61 = .ok (.ifCond .le 20, 3) := by decide +kernel
theorem dX5_found_64 : decode cX5_found 64 = .ok (.aload_n 0, 1) := by decide +kernel
theorem dX5_found_65 : decode cX5_found 65 = .ok (.iload_n 1, 1) := by decide +kernel
theorem dX5_found_66 : decode cX5_found 66 = .ok (.invokevirtual 95, 3) := by decide +kernel
theorem dX5_found_69 : decode cX5_found 69 = .ok (.ifCond .ne 12, 3) := by decide +kernel
theorem dX5_found_72 : decode cX5_found 72 = .ok (.aload_n 0, 1) := by decide +kernel
theorem dX5_found_73 : decode cX5_found 73 = .ok (.bipush 24, 2) := by decide +kernel
theorem dX5_found_75 : decode cX5_found 75 = .ok (.invokevirtual 95, 3) := by decide +kernel
theorem dX5_found_78 : decode cX5_found 78 = .ok (.goto 4, 3) := by decide +kernel
theorem dX5_found_81 : decode cX5_found 81 = .ok (.iload_n 3, 1) := by decide +kernel
theorem dX5_found_82 : decode cX5_found 82 = .ok (.istore 6, 2) := by decide +kernel
theorem dX5_found_84 : decode cX5_found 84 = .ok (.iload 5, 2) := by decide +kernel
theorem dX5_found_86 : decode cX5_found 86 = .ok (.bipush 8, 2) := by decide +kernel
theorem dX5_found_88 : decode cX5_found 88 = .ok (.if_icmp .ne 42, 3) := by decide +kernel
theorem dX5_found_91 : decode cX5_found 91 = .ok (.aload_n 0, 1) := by decide +kernel
theorem dX5_found_92 : decode cX5_found 92 = .ok (.bipush (-2), 2) := by decide +kernel
theorem dX5_found_94 : decode cX5_found 94 = .ok (.iload 6, 2) := by decide +kernel
theorem dX5_found_96 : decode cX5_found 96 = .ok (.aload_n 0, 1) := by decide +kernel
theorem dX5_found_97 : decode cX5_found 97 = .ok (.iload_n 3, 1) := by decide +kernel
theorem dX5_found_98 : decode cX5_found 98 = .ok (.iload_n 1, 1) := by decide +kernel
theorem dX5_found_99 : decode cX5_found 99 = .ok (.invokevirtual 98, 3) := by decide +kernel
theorem dX5_found_102 : decode cX5_found 102 = .ok (.aload_n 0, 1) := by decide +kernel
theorem dX5_found_103 : decode cX5_found 103 = .ok (.iconst 3, 1) := by decide +kernel
theorem dX5_found_104 : decode cX5_found 104 = .ok (.invokevirtual 95, 3) := by decide +kernel
theorem dX5_found_107 : decode cX5_found 107 = .ok (.aload_n 0, 1) := by decide +kernel
theorem dX5_found_108 : decode cX5_found 108 = .ok (.iconst 2, 1) := by decide +kernel
theorem dX5_found_109 : decode cX5_found 109 = .ok (.invokevirtual 95, 3) := by decide +kernel
theorem dX5_found_112 : decode cX5_found 112 = .ok (.ifCond .ne 7, 3) := by decide +kernel
theorem dX5_found_115 : decode cX5_found 115 = .ok (.iconst (-1), 1) := by decide +kernel
theorem dX5_found_116 : decode cX5_found 116 = .ok (.goto 4, 3) := by decide +kernel
theorem dX5_found_119 : decode cX5_found 119 = .ok (.iconst 3, 1) := by decide +kernel
theorem dX5_found_120 : decode cX5_found 120 = .ok (.iload 4, 2) := by decide +kernel
theorem dX5_found_122 : decode cX5_found 122 = .ok (.invokevirtual 91, 3) := by decide +kernel
theorem dX5_found_125 : decode cX5_found 125 = .ok (.ifCond .ne 5, 3) := by decide +kernel
theorem dX5_found_128 : decode cX5_found 128 = .ok (.iconst 0, 1) := by decide +kernel
theorem dX5_found_129 : decode cX5_found 129 = .ok (.ireturn, 1) := by decide +kernel
theorem dX5_found_130 : decode cX5_found 130 = .ok (.iload 5, 2) := by decide +kernel
theorem dX5_found_132 : decode cX5_found 132 = .ok (.bipush 8, 2) := by decide +kernel
theorem dX5_found_134 : decode cX5_found 134 = .ok (.if_icmp .ge 57, 3) := by decide +kernel
theorem dX5_found_137 : decode cX5_found 137 = .ok (.aload_n 0, 1) := by decide +kernel
theorem dX5_found_138 : decode cX5_found 138 = .ok (.iload 5, 2) := by decide +kernel
theorem dX5_found_140 : decode cX5_found 140 = .ok (.iload 6, 2) := by decide +kernel
theorem dX5_found_142 : decode cX5_found 142 = .ok (.aload_n 0, 1) := by decide +kernel
theorem dX5_found_143 : decode cX5_found 143 = .ok (.iload_n 3, 1) := by decide +kernel
theorem dX5_found_144 : decode cX5_found 144 = .ok (.iload_n 1, 1) := by decide +kernel
theorem dX5_found_145 : decode cX5_found 145 = .ok (.invokevirtual 98, 3) := by decide +kernel
theorem dX5_found_148 : decode cX5_found 148 = .ok (.iload 5, 2) := by decide +kernel
theorem dX5_found_150 : decode cX5_found 150 = .ok (.iconst 2, 1) := by decide +kernel
theorem dX5_found_151 : decode cX5_found 151 = .ok (.if_icmp .ge 7, 3) := by decide +kernel
theorem dX5_found_154 : decode cX5_found 154 = .ok (.iconst (-1), 1) := by decide +kernel
theorem dX5_found_155 : decode cX5_found 155 = .ok (.goto 9, 3) := by decide +kernel
theorem dX5_found_158 : decode cX5_found 158 = .ok (.aload_n 0, 1) := by decide +kernel
theorem dX5_found_159 : decode cX5_found 159 = .ok (.iload_n 3, 1) := by decide +kernel
theorem dX5_found_160 : decode cX5_found 160 = .ok (.iload_n 1, 1) := by decide +kernel
theorem dX5_found_161 : decode cX5_found 161 = .ok (.invokevirtual 98, 3) := by decide +kernel
theorem dX5_found_164 : decode cX5_found 164 = .ok (.iload 5, 2) := by decide +kernel
theorem dX5_found_166 : decode cX5_found 166 = .ok (.bipush 7, 2) := by decide +kernel
theorem dX5_found_168 : decode cX5_found 168 = .ok (.if_icmp .ge 7, 3) := by decide +kernel
theorem dX5_found_171 : decode cX5_found 171 = .ok (.iconst (-1), 1) := by decide +kernel
theorem dX5_found_172 : decode cX5_found 172 = .ok (.goto 9, 3) := by decide +kernel
theorem dX5_found_175 : decode cX5_found 175 = .ok (.aload_n 0, 1) := by decide +kernel
theorem dX5_found_176 : decode cX5_found 176 = .ok (.iload_n 3, 1) := by decide +kernel
theorem dX5_found_177 : decode cX5_found 177 = .ok (.iload_n 1, 1) := by decide +kernel
theorem dX5_found_178 : decode cX5_found 178 = .ok (.invokevirtual 98, 3) := by decide +kernel
theorem dX5_found_181 : decode cX5_found 181 = .ok (.iload 4, 2) := by decide +kernel
theorem dX5_found_183 : decode cX5_found 183 = .ok (.invokevirtual 91, 3) := by decide +kernel
theorem dX5_found_186 : decode cX5_found 186 = .ok (.ifCond .ne 5, 3) := by decide +kernel
theorem dX5_found_189 : decode cX5_found 189 = .ok (.iconst 0, 1) := by decide +kernel
theorem dX5_found_190 : decode cX5_found 190 = .ok (.ireturn, 1) := by decide +kernel
theorem dX5_found_191 : decode cX5_found 191 = .ok (.iinc 3 1, 3) := by decide +kernel
theorem dX5_found_194 : decode cX5_found 194 = .ok (.goto (-154), 3) := by decide +kernel
theorem dX5_found_197 : decode cX5_found 197 = .ok (.iconst 1, 1) := by decide +kernel
theorem dX5_found_198 : decode cX5_found 198 = .ok (.ireturn, 1) := by decide +kernel
theorem dX5_from_0 : decode cX5_from 0 = .ok (.iload_n 2, 1) := by decide +kernel
theorem dX5_from_1 : decode cX5_from 1 = .ok (.ifCond .le 20, 3) := by decide +kernel
theorem dX5_from_4 : decode cX5_from 4 = .ok (.aload_n 0, 1) := by decide +kernel
theorem dX5_from_5 : decode cX5_from 5 = .ok (.iload_n 2, 1) := by decide +kernel
theorem dX5_from_6 : decode cX5_from 6 = .ok (.invokevirtual 95, 3) := by decide +kernel
theorem dX5_from_9 : decode cX5_from 9 = .ok (.ifCond .ne 12, 3) := by decide +kernel
theorem dX5_from_12 : decode cX5_from 12 = .ok (.aload_n 0, 1) := by decide +kernel
theorem dX5_from_13 : decode cX5_from 13 = .ok (.bipush 20, 2) := by decide +kernel
theorem dX5_from_15 : decode cX5_from 15 = .ok (.invokevirtual 95, 3) := by decide +kernel
theorem dX5_from_18 : decode cX5_from 18 = .ok (.goto 8, 3) := by decide +kernel
theorem dX5_from_21 : decode cX5_from 21 = .ok (.aload_n 0, 1) := by decide +kernel
theorem dX5_from_22 : decode cX5_from 22 = .ok (.iload_n 1, 1) := by decide +kernel
theorem dX5_from_23 : decode cX5_from 23 = .ok (.invokevirtual 95, 3) := by decide +kernel
theorem dX5_from_26 : decode cX5_from 26 = .ok (.ireturn, 1) := by decide +kernel
theorem dX5_isGate_0 : decode cX5_isGate 0 = .ok (.iload_n 1, 1) := by decide +kernel
theorem dX5_isGate_1 : decode cX5_isGate 1 = .ok (.ifCond .lt 18, 3) := by decide +kernel
theorem dX5_isGate_4 : decode cX5_isGate 4 = .ok (.aload_n 0, 1) := by decide +kernel
theorem dX5_isGate_5 : decode cX5_isGate 5 = .ok (.getfield 18, 3) := by decide +kernel
theorem dX5_isGate_8 : decode cX5_isGate 8 = .ok (.iload_n 1, 1) := by decide +kernel
theorem dX5_isGate_9 : decode cX5_isGate 9 = .ok (.aaload, 1) := by decide +kernel
theorem dX5_isGate_10 : decode cX5_isGate 10 = .ok (.iconst 0, 1) := by decide +kernel
theorem dX5_isGate_11 : decode cX5_isGate 11 = .ok (.iaload, 1) := by decide +kernel
theorem dX5_isGate_12 : decode cX5_isGate 12 = .ok (.ifCond .lt 7, 3) := by decide +kernel
theorem dX5_isGate_15 : decode cX5_isGate 15 = .ok (.iconst 1, 1) := by decide +kernel
theorem dX5_isGate_16 : decode cX5_isGate 16 = .ok (.goto 4, 3) := by decide +kernel
theorem dX5_isGate_19 : decode cX5_isGate 19 = .ok (.iconst 0, 1) := by decide +kernel
theorem dX5_isGate_20 : decode cX5_isGate 20 = .ok (.ireturn, 1) := by decide +kernel
theorem dX5_uses_0 : decode cX5_uses 0 = .ok (.aload_n 0, 1) := by decide +kernel
theorem dX5_uses_1 : decode cX5_uses 1 = .ok (.getfield 18, 3) := by decide +kernel
theorem dX5_uses_4 : decode cX5_uses 4 = .ok (.iload_n 1, 1) := by decide +kernel
theorem dX5_uses_5 : decode cX5_uses 5 = .ok (.aaload, 1) := by decide +kernel
theorem dX5_uses_6 : decode cX5_uses 6 = .ok (.iconst 2, 1) := by decide +kernel
theorem dX5_uses_7 : decode cX5_uses 7 = .ok (.iaload, 1) := by decide +kernel
theorem dX5_uses_8 : decode cX5_uses 8 = .ok (.iload_n 2, 1) := by decide +kernel
theorem dX5_uses_9 : decode cX5_uses 9 = .ok (.if_icmp .eq 27, 3) := by decide +kernel
theorem dX5_uses_12 : decode cX5_uses 12 = .ok (.aload_n 0, 1) := by decide +kernel
theorem dX5_uses_13 : decode cX5_uses 13 = .ok (.getfield 18, 3) := by decide +kernel
theorem dX5_uses_16 : decode cX5_uses 16 = .ok (.iload_n 1, 1) := by decide +kernel
theorem dX5_uses_17 : decode cX5_uses 17 = .ok (.aaload, 1) := by decide +kernel
theorem dX5_uses_18 : decode cX5_uses 18 = .ok (.iconst 3, 1) := by decide +kernel
theorem dX5_uses_19 : decode cX5_uses 19 = .ok (.iaload, 1) := by decide +kernel
theorem dX5_uses_20 : decode cX5_uses 20 = .ok (.iload_n 2, 1) := by decide +kernel
theorem dX5_uses_21 : decode cX5_uses 21 = .ok (.if_icmp .eq 15, 3) := by decide +kernel
theorem dX5_uses_24 : decode cX5_uses 24 = .ok (.aload_n 0, 1) := by decide +kernel
theorem dX5_uses_25 : decode cX5_uses 25 = .ok (.getfield 18, 3) := by decide +kernel
theorem dX5_uses_28 : decode cX5_uses 28 = .ok (.iload_n 1, 1) := by decide +kernel
theorem dX5_uses_29 : decode cX5_uses 29 = .ok (.aaload, 1) := by decide +kernel
theorem dX5_uses_30 : decode cX5_uses 30 = .ok (.iconst 4, 1) := by decide +kernel
theorem dX5_uses_31 : decode cX5_uses 31 = .ok (.iaload, 1) := by decide +kernel
theorem dX5_uses_32 : decode cX5_uses 32 = .ok (.iload_n 2, 1) := by decide +kernel
theorem dX5_uses_33 : decode cX5_uses 33 = .ok (.if_icmp .ne 7, 3) := by decide +kernel
theorem dX5_uses_36 : decode cX5_uses 36 = .ok (.iconst 1, 1) := by decide +kernel
theorem dX5_uses_37 : decode cX5_uses 37 = .ok (.goto 4, 3) := by decide +kernel
theorem dX5_uses_40 : decode cX5_uses 40 = .ok (.iconst 0, 1) := by decide +kernel
theorem dX5_uses_41 : decode cX5_uses 41 = .ok (.ireturn, 1) := by decide +kernel
theorem dX5_driver_0 : decode cX5_driver 0 = .ok (.iconst (-1), 1) := by decide +kernel
theorem dX5_driver_1 : decode cX5_driver 1 = .ok (.istore_n 2, 1) := by decide +kernel
theorem dX5_driver_2 : decode cX5_driver 2 = .ok (.aload_n 0, 1) := by decide +kernel
theorem dX5_driver_3 : decode cX5_driver 3 = .ok (.getfield 72, 3) := by decide +kernel
theorem dX5_driver_6 : decode cX5_driver 6 = .ok (.iconst 1, 1) := by decide +kernel
theorem dX5_driver_7 : decode cX5_driver 7 = .ok (.isub, 1) := by decide +kernel
theorem dX5_driver_8 : decode cX5_driver 8 = .ok (.istore_n 3, 1) := by decide +kernel
theorem dX5_driver_9 : decode cX5_driver 9 = .ok (.iload_n 3, 1) := by decide +kernel
theorem dX5_driver_10 : decode cX5_driver 10 = .ok (.ifCond .lt 27, 3) := by decide +kernel
theorem dX5_driver_13 : decode cX5_driver 13 = .ok (.aload_n 0, 1) := by decide +kernel
theorem dX5_driver_14 : decode cX5_driver 14 = .ok (.getfield 18, 3) := by decide +kernel
theorem dX5_driver_17 : decode cX5_driver 17 = .ok (.iload_n 3, 1) := by decide +kernel
theorem dX5_driver_18 : decode cX5_driver 18 = .ok (.aaload, 1) := by decide +kernel
theorem dX5_driver_19 : decode cX5_driver 19 = .ok (.iconst 1, 1) := by decide +kernel
theorem dX5_driver_20 : decode cX5_driver 20 = .ok (.iaload, 1) := by decide +kernel
theorem dX5_driver_21 : decode cX5_driver 21 = .ok (.iload_n 1, 1) := by decide +kernel
theorem dX5_driver_22 : decode cX5_driver 22 = .ok (.if_icmp .ne 7, 3) := by decide +kernel
theorem dX5_driver_25 : decode cX5_driver 25 = .ok (.iload_n 3, 1) := by decide +kernel
theorem dX5_driver_26 : decode cX5_driver 26 = .ok (.goto 4, 3) := by decide +kernel
theorem dX5_driver_29 : decode cX5_driver 29 = .ok (.iload_n 2, 1) := by decide +kernel
theorem dX5_driver_30 : decode cX5_driver 30 = .ok (.istore_n 2, 1) := by decide +kernel
theorem dX5_driver_31 : decode cX5_driver 31 = .ok (.iinc 3 (-1), 3) := by decide +kernel
theorem dX5_driver_34 : decode cX5_driver 34 = .ok (.goto (-25), 3) := by decide +kernel
theorem dX5_driver_37 : decode cX5_driver 37 = .ok (.iload_n 2, 1) := by decide +kernel
theorem dX5_driver_38 : decode cX5_driver 38 = .ok (.ireturn, 1) := by decide +kernel
theorem dX5_users_0 : decode cX5_users 0 = .ok (.iconst 0, 1) := by decide +kernel
theorem dX5_users_1 : decode cX5_users 1 = .ok (.istore_n 2, 1) := by decide +kernel
theorem dX5_users_2 : decode cX5_users 2 = .ok (.iconst 0, 1) := by decide +kernel
theorem dX5_users_3 : decode cX5_users 3 = .ok (.istore_n 3, 1) := by decide +kernel
theorem dX5_users_4 : decode cX5_users 4 = .ok (.iload_n 3, 1) := by decide +kernel
theorem dX5_users_5 : decode cX5_users 5 = .ok (.aload_n 0, 1) := by decide +kernel
theorem dX5_users_6 : decode cX5_users 6 = .ok (.getfield 72, 3) := by decide +kernel
theorem dX5_users_9 : decode cX5_users 9 = .ok (.if_icmp .ge 26, 3) := by decide +kernel
theorem dX5_users_12 : decode cX5_users 12 = .ok (.iload_n 2, 1) := by decide +kernel
theorem dX5_users_13 : decode cX5_users 13 = .ok (.aload_n 0, 1) := by decide +kernel
theorem dX5_users_14 : decode cX5_users 14 = .ok (.iload_n 3, 1) := by decide +kernel
theorem dX5_users_15 : decode cX5_users 15 = .ok (.iload_n 1, 1) := by decide +kernel
theorem dX5_users_16 : decode cX5_users 16 = .ok (.invokevirtual 101, 3) := by decide +kernel
theorem dX5_users_19 : decode cX5_users 19 = .ok (.ifCond .eq 7, 3) := by decide +kernel
theorem dX5_users_22 : decode cX5_users 22 = .ok (.iconst 1, 1) := by decide +kernel
theorem dX5_users_23 : decode cX5_users 23 = .ok (.goto 4, 3) := by decide +kernel
theorem dX5_users_26 : decode cX5_users 26 = .ok (.iconst 0, 1) := by decide +kernel
theorem dX5_users_27 : decode cX5_users 27 = .ok (.iadd, 1) := by decide +kernel
theorem dX5_users_28 : decode cX5_users 28 = .ok (.istore_n 2, 1) := by decide +kernel
theorem dX5_users_29 : decode cX5_users 29 = .ok (.iinc 3 1, 3) := by decide +kernel
theorem dX5_users_32 : decode cX5_users 32 = .ok (.goto (-28), 3) := by decide +kernel
theorem dX5_users_35 : decode cX5_users 35 = .ok (.iload_n 2, 1) := by decide +kernel
theorem dX5_users_36 : decode cX5_users 36 = .ok (.ireturn, 1) := by decide +kernel
theorem dX5_leads_0 : decode cX5_leads 0 = .ok (.iload_n 1, 1) := by decide +kernel
theorem dX5_leads_1 : decode cX5_leads 1 = .ok (.iload_n 2, 1) := by decide +kernel
theorem dX5_leads_2 : decode cX5_leads 2 = .ok (.if_icmp .ne 5, 3) := by decide +kernel
theorem dX5_leads_5 : decode cX5_leads 5 = .ok (.iconst 1, 1) := by decide +kernel
theorem dX5_leads_6 : decode cX5_leads 6 = .ok (.ireturn, 1) := by decide +kernel
theorem dX5_leads_7 : decode cX5_leads 7 = .ok (.aload_n 3, 1) := by decide +kernel
theorem dX5_leads_8 : decode cX5_leads 8 = .ok (.iload_n 1, 1) := by decide +kernel
theorem dX5_leads_9 : decode cX5_leads 9 = .ok (.iconst 1, 1) := by decide +kernel
theorem dX5_leads_10 : decode cX5_leads 10 = .ok (.bastore, 1) := by decide +kernel
theorem dX5_leads_11 : decode cX5_leads 11 = .ok (.iconst 0, 1) := by decide +kernel
theorem dX5_leads_12 : decode cX5_leads 12 = .ok (.istore 4, 2) := by decide +kernel
theorem dX5_leads_14 : decode cX5_leads 14 = .ok (.iload 4, 2) := by decide +kernel
theorem dX5_leads_16 : decode cX5_leads 16 = .ok (.aload_n 0, 1) := by decide +kernel
theorem dX5_leads_17 : decode cX5_leads 17 = .ok (.getfield 72, 3) := by decide +kernel
theorem dX5_leads_20 : decode cX5_leads 20 = .ok (.if_icmp .ge 62, 3) := by decide +kernel
theorem dX5_leads_23 : decode cX5_leads 23 = .ok (.aload_n 0, 1) := by decide +kernel
theorem dX5_leads_24 : decode cX5_leads 24 = .ok (.iload 4, 2) := by decide +kernel
theorem dX5_leads_26 : decode cX5_leads 26 = .ok (.invokevirtual 105, 3) := by decide +kernel
theorem dX5_leads_29 : decode cX5_leads 29 = .ok (.ifCond .eq 47, 3) := by decide +kernel
theorem dX5_leads_32 : decode cX5_leads 32 = .ok (.aload_n 0, 1) := by decide +kernel
theorem dX5_leads_33 : decode cX5_leads 33 = .ok (.iload 4, 2) := by decide +kernel
theorem dX5_leads_35 : decode cX5_leads 35 = .ok (.iload_n 1, 1) := by decide +kernel
theorem dX5_leads_36 : decode cX5_leads 36 = .ok (.invokevirtual 101, 3) := by decide +kernel
theorem dX5_leads_39 : decode cX5_leads 39 = .ok (.ifCond .eq 37, 3) := by decide +kernel
theorem dX5_leads_42 : decode cX5_leads 42 = .ok (.aload_n 3, 1) := by decide +kernel
theorem dX5_leads_43 : decode cX5_leads 43 = .ok (.aload_n 0, 1) := by decide +kernel
theorem dX5_leads_44 : decode cX5_leads 44 = .ok (.getfield 18, 3) := by decide +kernel
theorem dX5_leads_47 : decode cX5_leads 47 = .ok (.iload 4, 2) := by decide +kernel
theorem dX5_leads_49 : decode cX5_leads 49 = .ok (.aaload, 1) := by decide +kernel
theorem dX5_leads_50 : decode cX5_leads 50 = .ok (.iconst 1, 1) := by decide +kernel
theorem dX5_leads_51 : decode cX5_leads 51 = .ok (.iaload, 1) := by decide +kernel
theorem dX5_leads_52 : decode cX5_leads 52 = .ok (.baload, 1) := by decide +kernel
theorem dX5_leads_53 : decode cX5_leads 53 = .ok (.ifCond .ne 23, 3) := by decide +kernel
theorem dX5_leads_56 : decode cX5_leads 56 = .ok (.aload_n 0, 1) := by decide +kernel
theorem dX5_leads_57 : decode cX5_leads 57 = .ok (.aload_n 0, 1) := by decide +kernel
theorem dX5_leads_58 : decode cX5_leads 58 = .ok (.getfield 18, 3) := by decide +kernel
theorem dX5_leads_61 : decode cX5_leads 61 = .ok (.iload 4, 2) := by decide +kernel
theorem dX5_leads_63 : decode cX5_leads 63 = .ok (.aaload, 1) := by decide +kernel
theorem dX5_leads_64 : decode cX5_leads 64 = .ok (.iconst 1, 1) := by decide +kernel
theorem dX5_leads_65 : decode cX5_leads 65 = .ok (.iaload, 1) := by decide +kernel
theorem dX5_leads_66 : decode cX5_leads 66 = .ok (.iload_n 2, 1) := by decide +kernel
theorem dX5_leads_67 : decode cX5_leads 67 = .ok (.aload_n 3, 1) := by decide +kernel
theorem dX5_leads_68 : decode cX5_leads 68 = .ok (.invokevirtual 109, 3) := by decide +kernel
theorem dX5_leads_71 : decode cX5_leads 71 = .ok (.ifCond .eq 5, 3) := by decide +kernel
theorem dX5_leads_74 : decode cX5_leads 74 = .ok (.iconst 1, 1) := by decide +kernel
theorem dX5_leads_75 : decode cX5_leads 75 = .ok (.ireturn, 1) := by decide +kernel
theorem dX5_leads_76 : decode cX5_leads 76 = .ok (.iinc 4 1, 3) := by decide +kernel
theorem dX5_leads_79 : decode cX5_leads 79 = .ok (.goto (-65), 3) := by decide +kernel
theorem dX5_leads_82 : decode cX5_leads 82 = .ok (.iconst 0, 1) := by decide +kernel
theorem dX5_leads_83 : decode cX5_leads 83 = .ok (.ireturn, 1) := by decide +kernel
theorem dX5_isRing_0 : decode cX5_isRing 0 = .ok (.iconst 2, 1) := by decide +kernel
theorem dX5_isRing_1 : decode cX5_isRing 1 = .ok (.istore_n 2, 1) := by decide +kernel
theorem dX5_isRing_2 : decode cX5_isRing 2 = .ok (.iload_n 2, 1) := by decide +kernel
theorem dX5_isRing_3 : decode cX5_isRing 3 = .ok (.iconst 5, 1) := by decide +kernel
theorem dX5_isRing_4 : decode cX5_isRing 4 = .ok (.if_icmp .ge 49, 3) := by decide +kernel
theorem dX5_isRing_7 : decode cX5_isRing 7 = .ok (.aload_n 0, 1) := by decide +kernel
theorem dX5_isRing_8 : decode cX5_isRing 8 = .ok (.getfield 18, 3) := by decide +kernel
theorem dX5_isRing_11 : decode cX5_isRing 11 = .ok (.iload_n 1, 1) := by decide +kernel
theorem dX5_isRing_12 : decode cX5_isRing 12 = .ok (.aaload, 1) := by decide +kernel
theorem dX5_isRing_13 : decode cX5_isRing 13 = .ok (.iload_n 2, 1) := by decide +kernel
theorem dX5_isRing_14 : decode cX5_isRing 14 = .ok (.iaload, 1) := by decide +kernel
theorem dX5_isRing_15 : decode cX5_isRing 15 = .ok (.ifCond .lt 32, 3) := by decide +kernel
theorem dX5_isRing_18 : decode cX5_isRing 18 = .ok (.aload_n 0, 1) := by decide +kernel
theorem dX5_isRing_19 : decode cX5_isRing 19 = .ok (.aload_n 0, 1) := by decide +kernel
theorem dX5_isRing_20 : decode cX5_isRing 20 = .ok (.getfield 18, 3) := by decide +kernel
theorem dX5_isRing_23 : decode cX5_isRing 23 = .ok (.iload_n 1, 1) := by decide +kernel
theorem dX5_isRing_24 : decode cX5_isRing 24 = .ok (.aaload, 1) := by decide +kernel
theorem dX5_isRing_25 : decode cX5_isRing 25 = .ok (.iconst 1, 1) := by decide +kernel
theorem dX5_isRing_26 : decode cX5_isRing 26 = .ok (.iaload, 1) := by decide +kernel
theorem dX5_isRing_27 : decode cX5_isRing 27 = .ok (.aload_n 0, 1) := by decide +kernel
theorem dX5_isRing_28 : decode cX5_isRing 28 = .ok (.getfield 18, 3) := by decide +kernel
theorem dX5_isRing_31 : decode cX5_isRing 31 = .ok (.iload_n 1, 1) := by decide +kernel
theorem dX5_isRing_32 : decode cX5_isRing 32 = .ok (.aaload, 1) := by decide +kernel
theorem dX5_isRing_33 : decode cX5_isRing 33 = .ok (.iload_n 2, 1) := by decide +kernel
theorem dX5_isRing_34 : decode cX5_isRing 34 = .ok (.iaload, 1) := by decide +kernel
theorem dX5_isRing_35 : decode cX5_isRing 35 = .ok (.bipush 24, 2) := by decide +kernel
theorem dX5_isRing_37 : decode cX5_isRing 37 = .ok (.newarray .boolean, 2) := by decide +kernel
theorem dX5_isRing_39 : decode cX5_isRing 39 = .ok (.invokevirtual 109, 3) := by decide +kernel
theorem dX5_isRing_42 : decode cX5_isRing 42 = .ok (.ifCond .eq 5, 3) := by decide +kernel
theorem dX5_isRing_45 : decode cX5_isRing 45 = .ok (.iconst 1, 1) := by decide +kernel
theorem dX5_isRing_46 : decode cX5_isRing 46 = .ok (.ireturn, 1) := by decide +kernel
theorem dX5_isRing_47 : decode cX5_isRing 47 = .ok (.iinc 2 1, 3) := by decide +kernel
theorem dX5_isRing_50 : decode cX5_isRing 50 = .ok (.goto (-48), 3) := by decide +kernel
theorem dX5_isRing_53 : decode cX5_isRing 53 = .ok (.iconst 0, 1) := by decide +kernel
theorem dX5_isRing_54 : decode cX5_isRing 54 = .ok (.ireturn, 1) := by decide +kernel
theorem dX5_flaws_0 : decode cX5_flaws 0 = .ok (.bipush 120, 2) := by decide +kernel
theorem dX5_flaws_2 : decode cX5_flaws 2 = .ok (.newarray .int, 2) := by decide +kernel
theorem dX5_flaws_4 : decode cX5_flaws 4 = .ok (.astore_n 1, 1) := by decide +kernel
theorem dX5_flaws_5 : decode cX5_flaws 5 = .ok (.iconst 0, 1) := by decide +kernel
theorem dX5_flaws_6 : decode cX5_flaws 6 = .ok (.istore_n 2, 1) := by decide +kernel
theorem dX5_flaws_7 : decode cX5_flaws 7 = .ok (.iconst 0, 1) := by decide +kernel
theorem dX5_flaws_8 : decode cX5_flaws 8 = .ok (.istore_n 3, 1) := by decide +kernel
theorem dX5_flaws_9 : decode cX5_flaws 9 = .ok (.iload_n 3, 1) := by decide +kernel
theorem dX5_flaws_10 : decode cX5_flaws 10 = .ok (.bipush 24, 2) := by decide +kernel
theorem dX5_flaws_12 : decode cX5_flaws 12 = .ok (.if_icmp .ge 99, 3) := by decide +kernel
theorem dX5_flaws_15 : decode cX5_flaws 15 = .ok (.iconst 0, 1) := by decide +kernel
theorem dX5_flaws_16 : decode cX5_flaws 16 = .ok (.istore 4, 2) := by decide +kernel
theorem dX5_flaws_18 : decode cX5_flaws 18 = .ok (.iconst 0, 1) := by decide +kernel
theorem dX5_flaws_19 : decode cX5_flaws 19 = .ok (.istore 5, 2) := by decide +kernel
theorem dX5_flaws_21 : decode cX5_flaws 21 = .ok (.iload 5, 2) := by decide +kernel
theorem dX5_flaws_23 : decode cX5_flaws 23 = .ok (.aload_n 0, 1) := by decide +kernel
theorem dX5_flaws_24 : decode cX5_flaws 24 = .ok (.getfield 72, 3) := by decide +kernel
theorem dX5_flaws_27 : decode cX5_flaws 27 = .ok (.if_icmp .ge 32, 3) := by decide +kernel
theorem dX5_flaws_30 : decode cX5_flaws 30 = .ok (.iload 4, 2) := by decide +kernel
theorem dX5_flaws_32 : decode cX5_flaws 32 = .ok (.aload_n 0, 1) := by decide +kernel
theorem dX5_flaws_33 : decode cX5_flaws 33 = .ok (.getfield 18, 3) := by decide +kernel
theorem dX5_flaws_36 : decode cX5_flaws 36 = .ok (.iload 5, 2) := by decide +kernel
theorem dX5_flaws_38 : decode cX5_flaws 38 = .ok (.aaload, 1) := by decide +kernel
theorem dX5_flaws_39 : decode cX5_flaws 39 = .ok (.iconst 1, 1) := by decide +kernel
theorem dX5_flaws_40 : decode cX5_flaws 40 = .ok (.iaload, 1) := by decide +kernel
theorem dX5_flaws_41 : decode cX5_flaws 41 = .ok (.iload_n 3, 1) := by decide +kernel
theorem dX5_flaws_42 : decode cX5_flaws 42 = .ok (.if_icmp .ne 7, 3) := by decide +kernel
theorem dX5_flaws_45 : decode cX5_flaws 45 = .ok (.iconst 1, 1) := by decide +kernel
theorem dX5_flaws_46 : decode cX5_flaws 46 = .ok (.goto 4, 3) := by decide +kernel
theorem dX5_flaws_49 : decode cX5_flaws 49 = .ok (.iconst 0, 1) := by decide +kernel
theorem dX5_flaws_50 : decode cX5_flaws 50 = .ok (.iadd, 1) := by decide +kernel
theorem dX5_flaws_51 : decode cX5_flaws 51 = .ok (.istore 4, 2) := by decide +kernel
theorem dX5_flaws_53 : decode cX5_flaws 53 = .ok (.iinc 5 1, 3) := by decide +kernel
theorem dX5_flaws_56 : decode cX5_flaws 56 = .ok (.goto (-35), 3) := by decide +kernel
theorem dX5_flaws_59 : decode cX5_flaws 59 = .ok (.iload 4, 2) := by decide +kernel
theorem dX5_flaws_61 : decode cX5_flaws 61 = .ok (.iconst 1, 1) := by decide +kernel
theorem dX5_flaws_62 : decode cX5_flaws 62 = .ok (.if_icmp .eq 43, 3) := by decide +kernel
theorem dX5_flaws_65 : decode cX5_flaws 65 = .ok (.iload 4, 2) := by decide +kernel
theorem dX5_flaws_67 : decode cX5_flaws 67 = .ok (.ifCond .ne 14, 3) := by decide +kernel
theorem dX5_flaws_70 : decode cX5_flaws 70 = .ok (.aload_n 0, 1) := by decide +kernel
theorem dX5_flaws_71 : decode cX5_flaws 71 = .ok (.iload_n 3, 1) := by decide +kernel
theorem dX5_flaws_72 : decode cX5_flaws 72 = .ok (.invokevirtual 113, 3) := by decide +kernel
theorem dX5_flaws_75 : decode cX5_flaws 75 = .ok (.ifCond .ne 6, 3) := by decide +kernel
theorem dX5_flaws_78 : decode cX5_flaws 78 = .ok (.goto 27, 3) := by decide +kernel
theorem dX5_flaws_81 : decode cX5_flaws 81 = .ok (.aload_n 1, 1) := by decide +kernel
theorem dX5_flaws_82 : decode cX5_flaws 82 = .ok (.iload_n 2, 1) := by decide +kernel
theorem dX5_flaws_83 : decode cX5_flaws 83 = .ok (.iinc 2 1, 3) := by decide +kernel
theorem dX5_flaws_86 : decode cX5_flaws 86 = .ok (.iload 4, 2) := by decide +kernel
theorem dX5_flaws_88 : decode cX5_flaws 88 = .ok (.iconst 1, 1) := by decide +kernel
theorem dX5_flaws_89 : decode cX5_flaws 89 = .ok (.if_icmp .le 7, 3) := by decide +kernel
theorem dX5_flaws_92 : decode cX5_flaws 92 = .ok (.iconst 1, 1) := by decide +kernel
theorem dX5_flaws_93 : decode cX5_flaws 93 = .ok (.goto 4, 3) := by decide +kernel
theorem dX5_flaws_96 : decode cX5_flaws 96 = .ok (.iconst 2, 1) := by decide +kernel
theorem dX5_flaws_97 : decode cX5_flaws 97 = .ok (.iastore, 1) := by decide +kernel
theorem dX5_flaws_98 : decode cX5_flaws 98 = .ok (.aload_n 1, 1) := by decide +kernel
theorem dX5_flaws_99 : decode cX5_flaws 99 = .ok (.iload_n 2, 1) := by decide +kernel
theorem dX5_flaws_100 : decode cX5_flaws 100 = .ok (.iinc 2 1, 3) := by decide +kernel
theorem dX5_flaws_103 : decode cX5_flaws 103 = .ok (.iload_n 3, 1) := by decide +kernel
theorem dX5_flaws_104 : decode cX5_flaws 104 = .ok (.iastore, 1) := by decide +kernel
theorem dX5_flaws_105 : decode cX5_flaws 105 = .ok (.iinc 3 1, 3) := by decide +kernel
theorem dX5_flaws_108 : decode cX5_flaws 108 = .ok (.goto (-99), 3) := by decide +kernel
theorem dX5_flaws_111 : decode cX5_flaws 111 = .ok (.iconst 0, 1) := by decide +kernel
theorem dX5_flaws_112 : decode cX5_flaws 112 = .ok (.istore_n 3, 1) := by decide +kernel
theorem dX5_flaws_113 : decode cX5_flaws 113 = .ok (.iload_n 3, 1) := by decide +kernel
theorem dX5_flaws_114 : decode cX5_flaws 114 = .ok (.aload_n 0, 1) := by decide +kernel
theorem dX5_flaws_115 : decode cX5_flaws 115 = .ok (.getfield 72, 3) := by decide +kernel
theorem dX5_flaws_118 : decode cX5_flaws 118 = .ok (.if_icmp .ge 42, 3) := by decide +kernel
theorem dX5_flaws_121 : decode cX5_flaws 121 = .ok (.aload_n 0, 1) := by decide +kernel
theorem dX5_flaws_122 : decode cX5_flaws 122 = .ok (.iload_n 3, 1) := by decide +kernel
theorem dX5_flaws_123 : decode cX5_flaws 123 = .ok (.invokevirtual 105, 3) := by decide +kernel
theorem dX5_flaws_126 : decode cX5_flaws 126 = .ok (.ifCond .eq 28, 3) := by decide +kernel
theorem dX5_flaws_129 : decode cX5_flaws 129 = .ok (.aload_n 0, 1) := by decide +kernel
theorem dX5_flaws_130 : decode cX5_flaws 130 = .ok (.iload_n 3, 1) := by decide +kernel
theorem dX5_flaws_131 : decode cX5_flaws 131 = .ok (.invokevirtual 116, 3) := by decide +kernel
theorem dX5_flaws_134 : decode cX5_flaws 134 = .ok (.ifCond .ne 6, 3) := by decide +kernel
theorem dX5_flaws_137 : decode cX5_flaws 137 = .ok (.goto 17, 3) := by decide +kernel
theorem dX5_flaws_140 : decode cX5_flaws 140 = .ok (.aload_n 1, 1) := by decide +kernel
theorem dX5_flaws_141 : decode cX5_flaws 141 = .ok (.iload_n 2, 1) := by decide +kernel
theorem dX5_flaws_142 : decode cX5_flaws 142 = .ok (.iinc 2 1, 3) := by decide +kernel
theorem dX5_flaws_145 : decode cX5_flaws 145 = .ok (.iconst 3, 1) := by decide +kernel
theorem dX5_flaws_146 : decode cX5_flaws 146 = .ok (.iastore, 1) := by decide +kernel
theorem dX5_flaws_147 : decode cX5_flaws 147 = .ok (.aload_n 1, 1) := by decide +kernel
theorem dX5_flaws_148 : decode cX5_flaws 148 = .ok (.iload_n 2, 1) := by decide +kernel
theorem dX5_flaws_149 : decode cX5_flaws 149 = .ok (.iinc 2 1, 3) := by decide +kernel
theorem dX5_flaws_152 : decode cX5_flaws 152 = .ok (.iload_n 3, 1) := by decide +kernel
theorem dX5_flaws_153 : decode cX5_flaws 153 = .ok (.iastore, 1) := by decide +kernel
theorem dX5_flaws_154 : decode cX5_flaws 154 = .ok (.iinc 3 1, 3) := by decide +kernel
theorem dX5_flaws_157 : decode cX5_flaws 157 = .ok (.goto (-44), 3) := by decide +kernel
theorem dX5_flaws_160 : decode cX5_flaws 160 = .ok (.iload_n 2, 1) := by decide +kernel
theorem dX5_flaws_161 : decode cX5_flaws 161 = .ok (.newarray .int, 2) := by decide +kernel
theorem dX5_flaws_163 : decode cX5_flaws 163 = .ok (.astore_n 3, 1) := by decide +kernel
theorem dX5_flaws_164 : decode cX5_flaws 164 = .ok (.aload_n 1, 1) := by decide +kernel
theorem dX5_flaws_165 : decode cX5_flaws 165 = .ok (.iconst 0, 1) := by decide +kernel
theorem dX5_flaws_166 : decode cX5_flaws 166 = .ok (.aload_n 3, 1) := by decide +kernel
theorem dX5_flaws_167 : decode cX5_flaws 167 = .ok (.iconst 0, 1) := by decide +kernel
theorem dX5_flaws_168 : decode cX5_flaws 168 = .ok (.iload_n 2, 1) := by decide +kernel
theorem dX5_flaws_169 : decode cX5_flaws 169 = .ok (.invokestatic 54, 3) := by decide +kernel
theorem dX5_flaws_172 : decode cX5_flaws 172 = .ok (.aload_n 3, 1) := by decide +kernel
theorem dX5_flaws_173 : decode cX5_flaws 173 = .ok (.areturn, 1) := by decide +kernel
theorem dX5_mayRun_0 : decode cX5_mayRun 0 = .ok (.aload_n 0, 1) := by decide +kernel
theorem dX5_mayRun_1 : decode cX5_mayRun 1 = .ok (.invokevirtual 119, 3) := by decide +kernel
theorem dX5_mayRun_4 : decode cX5_mayRun 4 = .ok (.astore_n 1, 1) := by decide +kernel
theorem dX5_mayRun_5 : decode cX5_mayRun 5 = .ok (.aload_n 1, 1) := by decide +kernel
theorem dX5_mayRun_6 : decode cX5_mayRun 6 = .ok (.arraylength, 1) := by decide +kernel
theorem dX5_mayRun_7 : decode cX5_mayRun 7 = .ok (.ifCond .eq 10, 3) := by decide +kernel
theorem dX5_mayRun_10 : decode cX5_mayRun 10 = .ok (.aload_n 1, 1) := by decide +kernel
theorem dX5_mayRun_11 : decode cX5_mayRun 11 = .ok (.iconst 0, 1) := by decide +kernel
theorem dX5_mayRun_12 : decode cX5_mayRun 12 = .ok (.iaload, 1) := by decide +kernel
theorem dX5_mayRun_13 : decode cX5_mayRun 13 = .ok (.iconst 3, 1) := by decide +kernel
theorem dX5_mayRun_14 : decode cX5_mayRun 14 = .ok (.if_icmp .ne 7, 3) := by decide +kernel
theorem dX5_mayRun_17 : decode cX5_mayRun 17 = .ok (.iconst 1, 1) := by decide +kernel
theorem dX5_mayRun_18 : decode cX5_mayRun 18 = .ok (.goto 4, 3) := by decide +kernel
theorem dX5_mayRun_21 : decode cX5_mayRun 21 = .ok (.iconst 0, 1) := by decide +kernel
theorem dX5_mayRun_22 : decode cX5_mayRun 22 = .ok (.ireturn, 1) := by decide +kernel
theorem dX5_value_0 : decode cX5_value 0 = .ok (.aload_n 0, 1) := by decide +kernel
theorem dX5_value_1 : decode cX5_value 1 = .ok (.getfield 22, 3) := by decide +kernel
theorem dX5_value_4 : decode cX5_value 4 = .ok (.iload_n 1, 1) := by decide +kernel
theorem dX5_value_5 : decode cX5_value 5 = .ok (.aaload, 1) := by decide +kernel
theorem dX5_value_6 : decode cX5_value 6 = .ok (.iconst 0, 1) := by decide +kernel
theorem dX5_value_7 : decode cX5_value 7 = .ok (.iaload, 1) := by decide +kernel
theorem dX5_value_8 : decode cX5_value 8 = .ok (.ireturn, 1) := by decide +kernel
theorem dX5_reckon_0 : decode cX5_reckon 0 = .ok (.aload_n 0, 1) := by decide +kernel
theorem dX5_reckon_1 : decode cX5_reckon 1 = .ok (.aload_n 0, 1) := by decide +kernel
theorem dX5_reckon_2 : decode cX5_reckon 2 = .ok (.getfield 18, 3) := by decide +kernel
theorem dX5_reckon_5 : decode cX5_reckon 5 = .ok (.iload_n 1, 1) := by decide +kernel
theorem dX5_reckon_6 : decode cX5_reckon 6 = .ok (.aaload, 1) := by decide +kernel
theorem dX5_reckon_7 : decode cX5_reckon 7 = .ok (.iconst 2, 1) := by decide +kernel
theorem dX5_reckon_8 : decode cX5_reckon 8 = .ok (.iaload, 1) := by decide +kernel
theorem dX5_reckon_9 : decode cX5_reckon 9 = .ok (.invokevirtual 126, 3) := by decide +kernel
theorem dX5_reckon_12 : decode cX5_reckon 12 = .ok (.istore_n 2, 1) := by decide +kernel
theorem dX5_reckon_13 : decode cX5_reckon 13 = .ok (.aload_n 0, 1) := by decide +kernel
theorem dX5_reckon_14 : decode cX5_reckon 14 = .ok (.getfield 18, 3) := by decide +kernel
theorem dX5_reckon_17 : decode cX5_reckon 17 = .ok (.iload_n 1, 1) := by decide +kernel
theorem dX5_reckon_18 : decode cX5_reckon 18 = .ok (.aaload, 1) := by decide +kernel
theorem dX5_reckon_19 : decode cX5_reckon 19 = .ok (.iconst 3, 1) := by decide +kernel
theorem dX5_reckon_20 : decode cX5_reckon 20 = .ok (.iaload, 1) := by decide +kernel
theorem dX5_reckon_21 : decode cX5_reckon 21 = .ok (.ifCond .ge 7, 3) := by decide +kernel
theorem dX5_reckon_24 : decode cX5_reckon 24 = .ok (.iconst 2, 1) := by decide +kernel
theorem dX5_reckon_25 : decode cX5_reckon 25 = .ok (.goto 15, 3) := by decide +kernel
theorem dX5_reckon_28 : decode cX5_reckon 28 = .ok (.aload_n 0, 1) := by decide +kernel
theorem dX5_reckon_29 : decode cX5_reckon 29 = .ok (.aload_n 0, 1) := by decide +kernel
theorem dX5_reckon_30 : decode cX5_reckon 30 = .ok (.getfield 18, 3) := by decide +kernel
theorem dX5_reckon_33 : decode cX5_reckon 33 = .ok (.iload_n 1, 1) := by decide +kernel
theorem dX5_reckon_34 : decode cX5_reckon 34 = .ok (.aaload, 1) := by decide +kernel
theorem dX5_reckon_35 : decode cX5_reckon 35 = .ok (.iconst 3, 1) := by decide +kernel
theorem dX5_reckon_36 : decode cX5_reckon 36 = .ok (.iaload, 1) := by decide +kernel
theorem dX5_reckon_37 : decode cX5_reckon 37 = .ok (.invokevirtual 126, 3) := by decide +kernel
theorem dX5_reckon_40 : decode cX5_reckon 40 = .ok (.istore_n 3, 1) := by decide +kernel
theorem dX5_reckon_41 : decode cX5_reckon 41 = .ok (.aload_n 0, 1) := by decide +kernel
theorem dX5_reckon_42 : decode cX5_reckon 42 = .ok (.getfield 18, 3) := by decide +kernel
theorem dX5_reckon_45 : decode cX5_reckon 45 = .ok (.iload_n 1, 1) := by decide +kernel
theorem dX5_reckon_46 : decode cX5_reckon 46 = .ok (.aaload, 1) := by decide +kernel
theorem dX5_reckon_47 : decode cX5_reckon 47 = .ok (.iconst 4, 1) := by decide +kernel
theorem dX5_reckon_48 : decode cX5_reckon 48 = .ok (.iaload, 1) := by decide +kernel
theorem dX5_reckon_49 : decode cX5_reckon 49 = .ok (.ifCond .ge 7, 3) := by decide +kernel
theorem dX5_reckon_52 : decode cX5_reckon 52 = .ok (.iconst 2, 1) := by decide +kernel
theorem dX5_reckon_53 : decode cX5_reckon 53 = .ok (.goto 15, 3) := by decide +kernel
theorem dX5_reckon_56 : decode cX5_reckon 56 = .ok (.aload_n 0, 1) := by decide +kernel
theorem dX5_reckon_57 : decode cX5_reckon 57 = .ok (.aload_n 0, 1) := by decide +kernel
theorem dX5_reckon_58 : decode cX5_reckon 58 = .ok (.getfield 18, 3) := by decide +kernel
theorem dX5_reckon_61 : decode cX5_reckon 61 = .ok (.iload_n 1, 1) := by decide +kernel
theorem dX5_reckon_62 : decode cX5_reckon 62 = .ok (.aaload, 1) := by decide +kernel
theorem dX5_reckon_63 : decode cX5_reckon 63 = .ok (.iconst 4, 1) := by decide +kernel
theorem dX5_reckon_64 : decode cX5_reckon 64 = .ok (.iaload, 1) := by decide +kernel
theorem dX5_reckon_65 : decode cX5_reckon 65 = .ok (.invokevirtual 126, 3) := by decide +kernel
theorem dX5_reckon_68 : decode cX5_reckon 68 = .ok (.istore 4, 2) := by decide +kernel
theorem dX5_reckon_70 : decode cX5_reckon 70 = .ok (.iload_n 2, 1) := by decide +kernel
theorem dX5_reckon_71 : decode cX5_reckon 71 = .ok (.ifCond .eq 7, 3) := by decide +kernel
theorem dX5_reckon_74 : decode cX5_reckon 74 = .ok (.iload_n 3, 1) := by decide +kernel
theorem dX5_reckon_75 : decode cX5_reckon 75 = .ok (.ifCond .ne 7, 3) := by decide +kernel
theorem dX5_reckon_78 : decode cX5_reckon 78 = .ok (.iconst 0, 1) := by decide +kernel
theorem dX5_reckon_79 : decode cX5_reckon 79 = .ok (.goto 18, 3) := by decide +kernel
theorem dX5_reckon_82 : decode cX5_reckon 82 = .ok (.iload_n 2, 1) := by decide +kernel
theorem dX5_reckon_83 : decode cX5_reckon 83 = .ok (.iconst 1, 1) := by decide +kernel
theorem dX5_reckon_84 : decode cX5_reckon 84 = .ok (.if_icmp .ne 12, 3) := by decide +kernel
theorem dX5_reckon_87 : decode cX5_reckon 87 = .ok (.iload_n 3, 1) := by decide +kernel
theorem dX5_reckon_88 : decode cX5_reckon 88 = .ok (.iconst 1, 1) := by decide +kernel
theorem dX5_reckon_89 : decode cX5_reckon 89 = .ok (.if_icmp .ne 7, 3) := by decide +kernel
theorem dX5_reckon_92 : decode cX5_reckon 92 = .ok (.iconst 1, 1) := by decide +kernel
theorem dX5_reckon_93 : decode cX5_reckon 93 = .ok (.goto 4, 3) := by decide +kernel
theorem dX5_reckon_96 : decode cX5_reckon 96 = .ok (.iconst 2, 1) := by decide +kernel
theorem dX5_reckon_97 : decode cX5_reckon 97 = .ok (.istore 5, 2) := by decide +kernel
theorem dX5_reckon_99 : decode cX5_reckon 99 = .ok (.iload_n 2, 1) := by decide +kernel
theorem dX5_reckon_100 : decode cX5_reckon 100 = .ok (.iconst 1, 1) := by decide +kernel
theorem dX5_reckon_101 : decode cX5_reckon 101 = .ok (.if_icmp .eq 8, 3) := by decide +kernel
theorem dX5_reckon_104 : decode cX5_reckon 104 = .ok (.iload_n 3, 1) := by decide +kernel
theorem dX5_reckon_105 : decode cX5_reckon 105 = .ok (.iconst 1, 1) := by decide +kernel
theorem dX5_reckon_106 : decode cX5_reckon 106 = .ok (.if_icmp .ne 7, 3) := by decide +kernel
theorem dX5_reckon_109 : decode cX5_reckon 109 = .ok (.iconst 1, 1) := by decide +kernel
theorem dX5_reckon_110 : decode cX5_reckon 110 = .ok (.goto 16, 3) := by decide +kernel
theorem dX5_reckon_113 : decode cX5_reckon 113 = .ok (.iload_n 2, 1) := by decide +kernel
theorem dX5_reckon_114 : decode cX5_reckon 114 = .ok (.ifCond .ne 11, 3) := by decide +kernel
theorem dX5_reckon_117 : decode cX5_reckon 117 = .ok (.iload_n 3, 1) := by decide +kernel
theorem dX5_reckon_118 : decode cX5_reckon 118 = .ok (.ifCond .ne 7, 3) := by decide +kernel
theorem dX5_reckon_121 : decode cX5_reckon 121 = .ok (.iconst 0, 1) := by decide +kernel
theorem dX5_reckon_122 : decode cX5_reckon 122 = .ok (.goto 4, 3) := by decide +kernel
theorem dX5_reckon_125 : decode cX5_reckon 125 = .ok (.iconst 2, 1) := by decide +kernel
theorem dX5_reckon_126 : decode cX5_reckon 126 = .ok (.istore 6, 2) := by decide +kernel
theorem dX5_reckon_128 : decode cX5_reckon 128 = .ok (.aload_n 0, 1) := by decide +kernel
theorem dX5_reckon_129 : decode cX5_reckon 129 = .ok (.getfield 18, 3) := by decide +kernel
theorem dX5_reckon_132 : decode cX5_reckon 132 = .ok (.iload_n 1, 1) := by decide +kernel
theorem dX5_reckon_133 : decode cX5_reckon 133 = .ok (.aaload, 1) := by decide +kernel
theorem dX5_reckon_134 : decode cX5_reckon 134 = .ok (.iconst 0, 1) := by decide +kernel
theorem dX5_reckon_135 : decode cX5_reckon 135 = .ok (.iaload, 1) := by decide +kernel
theorem dX5_reckon_136 : decode cX5_reckon 136 = .ok (.tableswitch 122 0 6 #[44, 57, 59, 62, 65, 92, 107], 44) := by decide +kernel
theorem dX5_reckon_180 : decode cX5_reckon 180 = .ok (.iload_n 2, 1) := by decide +kernel
theorem dX5_reckon_181 : decode cX5_reckon 181 = .ok (.iconst 2, 1) := by decide +kernel
theorem dX5_reckon_182 : decode cX5_reckon 182 = .ok (.if_icmp .ne 7, 3) := by decide +kernel
theorem dX5_reckon_185 : decode cX5_reckon 185 = .ok (.iconst 2, 1) := by decide +kernel
theorem dX5_reckon_186 : decode cX5_reckon 186 = .ok (.goto 6, 3) := by decide +kernel
theorem dX5_reckon_189 : decode cX5_reckon 189 = .ok (.iconst 1, 1) := by decide +kernel
theorem dX5_reckon_190 : decode cX5_reckon 190 = .ok (.iload_n 2, 1) := by decide +kernel
theorem dX5_reckon_191 : decode cX5_reckon 191 = .ok (.isub, 1) := by decide +kernel
theorem dX5_reckon_192 : decode cX5_reckon 192 = .ok (.ireturn, 1) := by decide +kernel
theorem dX5_reckon_193 : decode cX5_reckon 193 = .ok (.iload_n 2, 1) := by decide +kernel
theorem dX5_reckon_194 : decode cX5_reckon 194 = .ok (.ireturn, 1) := by decide +kernel
theorem dX5_reckon_195 : decode cX5_reckon 195 = .ok (.iload 5, 2) := by decide +kernel
theorem dX5_reckon_197 : decode cX5_reckon 197 = .ok (.ireturn, 1) := by decide +kernel
theorem dX5_reckon_198 : decode cX5_reckon 198 = .ok (.iload 6, 2) := by decide +kernel
theorem dX5_reckon_200 : decode cX5_reckon 200 = .ok (.ireturn, 1) := by decide +kernel
theorem dX5_reckon_201 : decode cX5_reckon 201 = .ok (.iload_n 2, 1) := by decide +kernel
theorem dX5_reckon_202 : decode cX5_reckon 202 = .ok (.iconst 2, 1) := by decide +kernel
theorem dX5_reckon_203 : decode cX5_reckon 203 = .ok (.if_icmp .eq 8, 3) := by decide +kernel
theorem dX5_reckon_206 : decode cX5_reckon 206 = .ok (.iload_n 3, 1) := by decide +kernel
theorem dX5_reckon_207 : decode cX5_reckon 207 = .ok (.iconst 2, 1) := by decide +kernel
theorem dX5_reckon_208 : decode cX5_reckon 208 = .ok (.if_icmp .ne 7, 3) := by decide +kernel
theorem dX5_reckon_211 : decode cX5_reckon 211 = .ok (.iconst 2, 1) := by decide +kernel
theorem dX5_reckon_212 : decode cX5_reckon 212 = .ok (.goto 15, 3) := by decide +kernel
theorem dX5_reckon_215 : decode cX5_reckon 215 = .ok (.iload_n 2, 1) := by decide +kernel
theorem dX5_reckon_216 : decode cX5_reckon 216 = .ok (.iload_n 3, 1) := by decide +kernel
theorem dX5_reckon_217 : decode cX5_reckon 217 = .ok (.iadd, 1) := by decide +kernel
theorem dX5_reckon_218 : decode cX5_reckon 218 = .ok (.iconst 1, 1) := by decide +kernel
theorem dX5_reckon_219 : decode cX5_reckon 219 = .ok (.if_icmp .ne 7, 3) := by decide +kernel
theorem dX5_reckon_222 : decode cX5_reckon 222 = .ok (.iconst 1, 1) := by decide +kernel
theorem dX5_reckon_223 : decode cX5_reckon 223 = .ok (.goto 4, 3) := by decide +kernel
theorem dX5_reckon_226 : decode cX5_reckon 226 = .ok (.iconst 0, 1) := by decide +kernel
theorem dX5_reckon_227 : decode cX5_reckon 227 = .ok (.ireturn, 1) := by decide +kernel
theorem dX5_reckon_228 : decode cX5_reckon 228 = .ok (.iload 5, 2) := by decide +kernel
theorem dX5_reckon_230 : decode cX5_reckon 230 = .ok (.iconst 2, 1) := by decide +kernel
theorem dX5_reckon_231 : decode cX5_reckon 231 = .ok (.if_icmp .ne 7, 3) := by decide +kernel
theorem dX5_reckon_234 : decode cX5_reckon 234 = .ok (.iconst 2, 1) := by decide +kernel
theorem dX5_reckon_235 : decode cX5_reckon 235 = .ok (.goto 7, 3) := by decide +kernel
theorem dX5_reckon_238 : decode cX5_reckon 238 = .ok (.iconst 1, 1) := by decide +kernel
theorem dX5_reckon_239 : decode cX5_reckon 239 = .ok (.iload 5, 2) := by decide +kernel
theorem dX5_reckon_241 : decode cX5_reckon 241 = .ok (.isub, 1) := by decide +kernel
theorem dX5_reckon_242 : decode cX5_reckon 242 = .ok (.ireturn, 1) := by decide +kernel
theorem dX5_reckon_243 : decode cX5_reckon 243 = .ok (.iload 6, 2) := by decide +kernel
theorem dX5_reckon_245 : decode cX5_reckon 245 = .ok (.iconst 2, 1) := by decide +kernel
theorem dX5_reckon_246 : decode cX5_reckon 246 = .ok (.if_icmp .ne 7, 3) := by decide +kernel
theorem dX5_reckon_249 : decode cX5_reckon 249 = .ok (.iconst 2, 1) := by decide +kernel
theorem dX5_reckon_250 : decode cX5_reckon 250 = .ok (.goto 7, 3) := by decide +kernel
theorem dX5_reckon_253 : decode cX5_reckon 253 = .ok (.iconst 1, 1) := by decide +kernel
theorem dX5_reckon_254 : decode cX5_reckon 254 = .ok (.iload 6, 2) := by decide +kernel
theorem dX5_reckon_256 : decode cX5_reckon 256 = .ok (.isub, 1) := by decide +kernel
theorem dX5_reckon_257 : decode cX5_reckon 257 = .ok (.ireturn, 1) := by decide +kernel
theorem dX5_reckon_258 : decode cX5_reckon 258 = .ok (.iload_n 2, 1) := by decide +kernel
theorem dX5_reckon_259 : decode cX5_reckon 259 = .ok (.iconst 1, 1) := by decide +kernel
theorem dX5_reckon_260 : decode cX5_reckon 260 = .ok (.if_icmp .ne 7, 3) := by decide +kernel
theorem dX5_reckon_263 : decode cX5_reckon 263 = .ok (.iload_n 3, 1) := by decide +kernel
theorem dX5_reckon_264 : decode cX5_reckon 264 = .ok (.goto 23, 3) := by decide +kernel
theorem dX5_reckon_267 : decode cX5_reckon 267 = .ok (.iload_n 2, 1) := by decide +kernel
theorem dX5_reckon_268 : decode cX5_reckon 268 = .ok (.ifCond .ne 8, 3) := by decide +kernel
theorem dX5_reckon_271 : decode cX5_reckon 271 = .ok (.iload 4, 2) := by decide +kernel
theorem dX5_reckon_273 : decode cX5_reckon 273 = .ok (.goto 14, 3) := by decide +kernel
theorem dX5_reckon_276 : decode cX5_reckon 276 = .ok (.iload_n 3, 1) := by decide +kernel
theorem dX5_reckon_277 : decode cX5_reckon 277 = .ok (.iload 4, 2) := by decide +kernel
theorem dX5_reckon_279 : decode cX5_reckon 279 = .ok (.if_icmp .ne 7, 3) := by decide +kernel
theorem dX5_reckon_282 : decode cX5_reckon 282 = .ok (.iload_n 3, 1) := by decide +kernel
theorem dX5_reckon_283 : decode cX5_reckon 283 = .ok (.goto 4, 3) := by decide +kernel
theorem dX5_reckon_286 : decode cX5_reckon 286 = .ok (.iconst 2, 1) := by decide +kernel
theorem dX5_reckon_287 : decode cX5_reckon 287 = .ok (.ireturn, 1) := by decide +kernel
theorem dX5_pendingOf_0 : decode cX5_pendingOf 0 = .ok (.aload_n 0, 1) := by decide +kernel
theorem dX5_pendingOf_1 : decode cX5_pendingOf 1 = .ok (.getfield 25, 3) := by decide +kernel
theorem dX5_pendingOf_4 : decode cX5_pendingOf 4 = .ok (.astore_n 2, 1) := by decide +kernel
theorem dX5_pendingOf_5 : decode cX5_pendingOf 5 = .ok (.aload_n 2, 1) := by decide +kernel
theorem dX5_pendingOf_6 : decode cX5_pendingOf 6 = .ok (.arraylength, 1) := by decide +kernel
theorem dX5_pendingOf_7 : decode cX5_pendingOf 7 = .ok (.istore_n 3, 1) := by decide +kernel
theorem dX5_pendingOf_8 : decode cX5_pendingOf 8 = .ok (.iconst 0, 1) := by decide +kernel
theorem dX5_pendingOf_9 : decode cX5_pendingOf 9 = .ok (.istore 4, 2) := by decide +kernel
theorem dX5_pendingOf_11 : decode cX5_pendingOf 11 = .ok (.iload 4, 2) := by decide +kernel
theorem dX5_pendingOf_13 : decode cX5_pendingOf 13 = .ok (.iload_n 3, 1) := by decide +kernel
theorem dX5_pendingOf_14 : decode cX5_pendingOf 14 = .ok (.if_icmp .ge 28, 3) := by decide +kernel
theorem dX5_pendingOf_17 : decode cX5_pendingOf 17 = .ok (.aload_n 2, 1) := by decide +kernel
theorem dX5_pendingOf_18 : decode cX5_pendingOf 18 = .ok (.iload 4, 2) := by decide +kernel
theorem dX5_pendingOf_20 : decode cX5_pendingOf 20 = .ok (.aaload, 1) := by decide +kernel
theorem dX5_pendingOf_21 : decode cX5_pendingOf 21 = .ok (.astore 5, 2) := by decide +kernel
theorem dX5_pendingOf_23 : decode cX5_pendingOf 23 = .ok (.aload 5, 2) := by decide +kernel
theorem dX5_pendingOf_25 : decode cX5_pendingOf 25 = .ok (.iconst 1, 1) := by decide +kernel
theorem dX5_pendingOf_26 : decode cX5_pendingOf 26 = .ok (.iaload, 1) := by decide +kernel
theorem dX5_pendingOf_27 : decode cX5_pendingOf 27 = .ok (.iload_n 1, 1) := by decide +kernel
theorem dX5_pendingOf_28 : decode cX5_pendingOf 28 = .ok (.if_icmp .ne 8, 3) := by decide +kernel
theorem dX5_pendingOf_31 : decode cX5_pendingOf 31 = .ok (.aload 5, 2) := by decide +kernel
theorem dX5_pendingOf_33 : decode cX5_pendingOf 33 = .ok (.iconst 2, 1) := by decide +kernel
theorem dX5_pendingOf_34 : decode cX5_pendingOf 34 = .ok (.iaload, 1) := by decide +kernel
theorem dX5_pendingOf_35 : decode cX5_pendingOf 35 = .ok (.ireturn, 1) := by decide +kernel
theorem dX5_pendingOf_36 : decode cX5_pendingOf 36 = .ok (.iinc 4 1, 3) := by decide +kernel
theorem dX5_pendingOf_39 : decode cX5_pendingOf 39 = .ok (.goto (-28), 3) := by decide +kernel
theorem dX5_pendingOf_42 : decode cX5_pendingOf 42 = .ok (.iconst (-1), 1) := by decide +kernel
theorem dX5_pendingOf_43 : decode cX5_pendingOf 43 = .ok (.ireturn, 1) := by decide +kernel
theorem dX5_drop_0 : decode cX5_drop 0 = .ok (.aload_n 0, 1) := by decide +kernel
theorem dX5_drop_1 : decode cX5_drop 1 = .ok (.getfield 25, 3) := by decide +kernel
theorem dX5_drop_4 : decode cX5_drop 4 = .ok (.arraylength, 1) := by decide +kernel
theorem dX5_drop_5 : decode cX5_drop 5 = .ok (.iconst 1, 1) := by decide +kernel
theorem dX5_drop_6 : decode cX5_drop 6 = .ok (.isub, 1) := by decide +kernel
theorem dX5_drop_7 : decode cX5_drop 7 = .ok (.istore_n 2, 1) := by decide +kernel
theorem dX5_drop_8 : decode cX5_drop 8 = .ok (.iload_n 2, 1) := by decide +kernel
theorem dX5_drop_9 : decode cX5_drop 9 = .ok (.ifCond .lt 33, 3) := by decide +kernel
theorem dX5_drop_12 : decode cX5_drop 12 = .ok (.aload_n 0, 1) := by decide +kernel
theorem dX5_drop_13 : decode cX5_drop 13 = .ok (.getfield 25, 3) := by decide +kernel
theorem dX5_drop_16 : decode cX5_drop 16 = .ok (.iload_n 2, 1) := by decide +kernel
theorem dX5_drop_17 : decode cX5_drop 17 = .ok (.aaload, 1) := by decide +kernel
theorem dX5_drop_18 : decode cX5_drop 18 = .ok (.iconst 1, 1) := by decide +kernel
theorem dX5_drop_19 : decode cX5_drop 19 = .ok (.iaload, 1) := by decide +kernel
theorem dX5_drop_20 : decode cX5_drop 20 = .ok (.iload_n 1, 1) := by decide +kernel
theorem dX5_drop_21 : decode cX5_drop 21 = .ok (.if_icmp .ne 15, 3) := by decide +kernel
theorem dX5_drop_24 : decode cX5_drop 24 = .ok (.aload_n 0, 1) := by decide +kernel
theorem dX5_drop_25 : decode cX5_drop 25 = .ok (.aload_n 0, 1) := by decide +kernel
theorem dX5_drop_26 : decode cX5_drop 26 = .ok (.getfield 25, 3) := by decide +kernel
theorem dX5_drop_29 : decode cX5_drop 29 = .ok (.iload_n 2, 1) := by decide +kernel
theorem dX5_drop_30 : decode cX5_drop 30 = .ok (.invokestatic 129, 3) := by decide +kernel
theorem dX5_drop_33 : decode cX5_drop 33 = .ok (.putfield 25, 3) := by decide +kernel
theorem dX5_drop_36 : decode cX5_drop 36 = .ok (.iinc 2 (-1), 3) := by decide +kernel
theorem dX5_drop_39 : decode cX5_drop 39 = .ok (.goto (-31), 3) := by decide +kernel
theorem dX5_drop_42 : decode cX5_drop 42 = .ok (.return_, 1) := by decide +kernel
theorem dX5_pend_0 : decode cX5_pend 0 = .ok (.iconst 3, 1) := by decide +kernel
theorem dX5_pend_1 : decode cX5_pend 1 = .ok (.newarray .int, 2) := by decide +kernel
theorem dX5_pend_3 : decode cX5_pend 3 = .ok (.dup, 1) := by decide +kernel
theorem dX5_pend_4 : decode cX5_pend 4 = .ok (.iconst 0, 1) := by decide +kernel
theorem dX5_pend_5 : decode cX5_pend 5 = .ok (.aload_n 0, 1) := by decide +kernel
theorem dX5_pend_6 : decode cX5_pend 6 = .ok (.getfield 60, 3) := by decide +kernel
theorem dX5_pend_9 : decode cX5_pend 9 = .ok (.aload_n 0, 1) := by decide +kernel
theorem dX5_pend_10 : decode cX5_pend 10 = .ok (.getfield 18, 3) := by decide +kernel
theorem dX5_pend_13 : decode cX5_pend 13 = .ok (.iload_n 1, 1) := by decide +kernel
theorem dX5_pend_14 : decode cX5_pend 14 = .ok (.aaload, 1) := by decide +kernel
theorem dX5_pend_15 : decode cX5_pend 15 = .ok (.iconst 5, 1) := by decide +kernel
theorem dX5_pend_16 : decode cX5_pend 16 = .ok (.iaload, 1) := by decide +kernel
theorem dX5_pend_17 : decode cX5_pend 17 = .ok (.iadd, 1) := by decide +kernel
theorem dX5_pend_18 : decode cX5_pend 18 = .ok (.iastore, 1) := by decide +kernel
theorem dX5_pend_19 : decode cX5_pend 19 = .ok (.dup, 1) := by decide +kernel
theorem dX5_pend_20 : decode cX5_pend 20 = .ok (.iconst 1, 1) := by decide +kernel
theorem dX5_pend_21 : decode cX5_pend 21 = .ok (.iload_n 1, 1) := by decide +kernel
theorem dX5_pend_22 : decode cX5_pend 22 = .ok (.iastore, 1) := by decide +kernel
theorem dX5_pend_23 : decode cX5_pend 23 = .ok (.dup, 1) := by decide +kernel
theorem dX5_pend_24 : decode cX5_pend 24 = .ok (.iconst 2, 1) := by decide +kernel
theorem dX5_pend_25 : decode cX5_pend 25 = .ok (.iload_n 2, 1) := by decide +kernel
theorem dX5_pend_26 : decode cX5_pend 26 = .ok (.iastore, 1) := by decide +kernel
theorem dX5_pend_27 : decode cX5_pend 27 = .ok (.astore_n 3, 1) := by decide +kernel
theorem dX5_pend_28 : decode cX5_pend 28 = .ok (.aload_n 0, 1) := by decide +kernel
theorem dX5_pend_29 : decode cX5_pend 29 = .ok (.getfield 25, 3) := by decide +kernel
theorem dX5_pend_32 : decode cX5_pend 32 = .ok (.arraylength, 1) := by decide +kernel
theorem dX5_pend_33 : decode cX5_pend 33 = .ok (.istore 4, 2) := by decide +kernel
theorem dX5_pend_35 : decode cX5_pend 35 = .ok (.iload 4, 2) := by decide +kernel
theorem dX5_pend_37 : decode cX5_pend 37 = .ok (.ifCond .le 26, 3) := by decide +kernel
theorem dX5_pend_40 : decode cX5_pend 40 = .ok (.aload_n 0, 1) := by decide +kernel
theorem dX5_pend_41 : decode cX5_pend 41 = .ok (.getfield 25, 3) := by decide +kernel
theorem dX5_pend_44 : decode cX5_pend 44 = .ok (.iload 4, 2) := by decide +kernel
theorem dX5_pend_46 : decode cX5_pend 46 = .ok (.iconst 1, 1) := by decide +kernel
theorem dX5_pend_47 : decode cX5_pend 47 = .ok (.isub, 1) := by decide +kernel
theorem dX5_pend_48 : decode cX5_pend 48 = .ok (.aaload, 1) := by decide +kernel
theorem dX5_pend_49 : decode cX5_pend 49 = .ok (.iconst 0, 1) := by decide +kernel
theorem dX5_pend_50 : decode cX5_pend 50 = .ok (.iaload, 1) := by decide +kernel
theorem dX5_pend_51 : decode cX5_pend 51 = .ok (.aload_n 3, 1) := by decide +kernel
theorem dX5_pend_52 : decode cX5_pend 52 = .ok (.iconst 0, 1) := by decide +kernel
theorem dX5_pend_53 : decode cX5_pend 53 = .ok (.iaload, 1) := by decide +kernel
theorem dX5_pend_54 : decode cX5_pend 54 = .ok (.if_icmp .le 9, 3) := by decide +kernel
theorem dX5_pend_57 : decode cX5_pend 57 = .ok (.iinc 4 (-1), 3) := by decide +kernel
theorem dX5_pend_60 : decode cX5_pend 60 = .ok (.goto (-25), 3) := by decide +kernel
theorem dX5_pend_63 : decode cX5_pend 63 = .ok (.aload_n 0, 1) := by decide +kernel
theorem dX5_pend_64 : decode cX5_pend 64 = .ok (.aload_n 0, 1) := by decide +kernel
theorem dX5_pend_65 : decode cX5_pend 65 = .ok (.getfield 25, 3) := by decide +kernel
theorem dX5_pend_68 : decode cX5_pend 68 = .ok (.iload 4, 2) := by decide +kernel
theorem dX5_pend_70 : decode cX5_pend 70 = .ok (.aload_n 3, 1) := by decide +kernel
theorem dX5_pend_71 : decode cX5_pend 71 = .ok (.invokestatic 133, 3) := by decide +kernel
theorem dX5_pend_74 : decode cX5_pend 74 = .ok (.putfield 25, 3) := by decide +kernel
theorem dX5_pend_77 : decode cX5_pend 77 = .ok (.return_, 1) := by decide +kernel
theorem dX5_note_0 : decode cX5_note 0 = .ok (.iconst 3, 1) := by decide +kernel
theorem dX5_note_1 : decode cX5_note 1 = .ok (.newarray .int, 2) := by decide +kernel
theorem dX5_note_3 : decode cX5_note 3 = .ok (.dup, 1) := by decide +kernel
theorem dX5_note_4 : decode cX5_note 4 = .ok (.iconst 0, 1) := by decide +kernel
theorem dX5_note_5 : decode cX5_note 5 = .ok (.iload_n 1, 1) := by decide +kernel
theorem dX5_note_6 : decode cX5_note 6 = .ok (.iastore, 1) := by decide +kernel
theorem dX5_note_7 : decode cX5_note 7 = .ok (.dup, 1) := by decide +kernel
theorem dX5_note_8 : decode cX5_note 8 = .ok (.iconst 1, 1) := by decide +kernel
theorem dX5_note_9 : decode cX5_note 9 = .ok (.iload_n 2, 1) := by decide +kernel
theorem dX5_note_10 : decode cX5_note 10 = .ok (.iastore, 1) := by decide +kernel
theorem dX5_note_11 : decode cX5_note 11 = .ok (.dup, 1) := by decide +kernel
theorem dX5_note_12 : decode cX5_note 12 = .ok (.iconst 2, 1) := by decide +kernel
theorem dX5_note_13 : decode cX5_note 13 = .ok (.aload_n 0, 1) := by decide +kernel
theorem dX5_note_14 : decode cX5_note 14 = .ok (.getfield 60, 3) := by decide +kernel
theorem dX5_note_17 : decode cX5_note 17 = .ok (.iastore, 1) := by decide +kernel
theorem dX5_note_18 : decode cX5_note 18 = .ok (.astore_n 3, 1) := by decide +kernel
theorem dX5_note_19 : decode cX5_note 19 = .ok (.aload_n 0, 1) := by decide +kernel
theorem dX5_note_20 : decode cX5_note 20 = .ok (.getfield 31, 3) := by decide +kernel
theorem dX5_note_23 : decode cX5_note 23 = .ok (.arraylength, 1) := by decide +kernel
theorem dX5_note_24 : decode cX5_note 24 = .ok (.bipush 40, 2) := by decide +kernel
theorem dX5_note_26 : decode cX5_note 26 = .ok (.if_icmp .ge 20, 3) := by decide +kernel
theorem dX5_note_29 : decode cX5_note 29 = .ok (.aload_n 0, 1) := by decide +kernel
theorem dX5_note_30 : decode cX5_note 30 = .ok (.aload_n 0, 1) := by decide +kernel
theorem dX5_note_31 : decode cX5_note 31 = .ok (.getfield 31, 3) := by decide +kernel
theorem dX5_note_34 : decode cX5_note 34 = .ok (.aload_n 0, 1) := by decide +kernel
theorem dX5_note_35 : decode cX5_note 35 = .ok (.getfield 31, 3) := by decide +kernel
theorem dX5_note_38 : decode cX5_note 38 = .ok (.arraylength, 1) := by decide +kernel
theorem dX5_note_39 : decode cX5_note 39 = .ok (.aload_n 3, 1) := by decide +kernel
theorem dX5_note_40 : decode cX5_note 40 = .ok (.invokestatic 133, 3) := by decide +kernel
theorem dX5_note_43 : decode cX5_note 43 = .ok (.putfield 31, 3) := by decide +kernel
theorem dX5_note_46 : decode cX5_note 46 = .ok (.return_, 1) := by decide +kernel
theorem dX5_change_0 : decode cX5_change 0 = .ok (.aload_n 0, 1) := by decide +kernel
theorem dX5_change_1 : decode cX5_change 1 = .ok (.getfield 22, 3) := by decide +kernel
theorem dX5_change_4 : decode cX5_change 4 = .ok (.iload_n 1, 1) := by decide +kernel
theorem dX5_change_5 : decode cX5_change 5 = .ok (.aaload, 1) := by decide +kernel
theorem dX5_change_6 : decode cX5_change 6 = .ok (.iconst 0, 1) := by decide +kernel
theorem dX5_change_7 : decode cX5_change 7 = .ok (.iaload, 1) := by decide +kernel
theorem dX5_change_8 : decode cX5_change 8 = .ok (.istore_n 3, 1) := by decide +kernel
theorem dX5_change_9 : decode cX5_change 9 = .ok (.aload_n 0, 1) := by decide +kernel
theorem dX5_change_10 : decode cX5_change 10 = .ok (.getfield 22, 3) := by decide +kernel
theorem dX5_change_13 : decode cX5_change 13 = .ok (.iload_n 1, 1) := by decide +kernel
theorem dX5_change_14 : decode cX5_change 14 = .ok (.aaload, 1) := by decide +kernel
theorem dX5_change_15 : decode cX5_change 15 = .ok (.iconst 0, 1) := by decide +kernel
theorem dX5_change_16 : decode cX5_change 16 = .ok (.iload_n 2, 1) := by decide +kernel
theorem dX5_change_17 : decode cX5_change 17 = .ok (.iastore, 1) := by decide +kernel
theorem dX5_change_18 : decode cX5_change 18 = .ok (.aload_n 0, 1) := by decide +kernel
theorem dX5_change_19 : decode cX5_change 19 = .ok (.getfield 22, 3) := by decide +kernel
theorem dX5_change_22 : decode cX5_change 22 = .ok (.iload_n 1, 1) := by decide +kernel
theorem dX5_change_23 : decode cX5_change 23 = .ok (.aaload, 1) := by decide +kernel
theorem dX5_change_24 : decode cX5_change 24 = .ok (.iconst 1, 1) := by decide +kernel
theorem dX5_change_25 : decode cX5_change 25 = .ok (.aload_n 0, 1) := by decide +kernel
theorem dX5_change_26 : decode cX5_change 26 = .ok (.getfield 60, 3) := by decide +kernel
theorem dX5_change_29 : decode cX5_change 29 = .ok (.iastore, 1) := by decide +kernel
theorem dX5_change_30 : decode cX5_change 30 = .ok (.aload_n 0, 1) := by decide +kernel
theorem dX5_change_31 : decode cX5_change 31 = .ok (.getfield 22, 3) := by decide +kernel
theorem dX5_change_34 : decode cX5_change 34 = .ok (.iload_n 1, 1) := by decide +kernel
theorem dX5_change_35 : decode cX5_change 35 = .ok (.aaload, 1) := by decide +kernel
theorem dX5_change_36 : decode cX5_change 36 = .ok (.iconst 2, 1) := by decide +kernel
theorem dX5_change_37 : decode cX5_change 37 = .ok (.dup2, 1) := by decide +kernel
theorem dX5_change_38 : decode cX5_change 38 = .ok (.iaload, 1) := by decide +kernel
theorem dX5_change_39 : decode cX5_change 39 = .ok (.iconst 1, 1) := by decide +kernel
theorem dX5_change_40 : decode cX5_change 40 = .ok (.iadd, 1) := by decide +kernel
theorem dX5_change_41 : decode cX5_change 41 = .ok (.iastore, 1) := by decide +kernel
theorem dX5_change_42 : decode cX5_change 42 = .ok (.aload_n 0, 1) := by decide +kernel
theorem dX5_change_43 : decode cX5_change 43 = .ok (.dup, 1) := by decide +kernel
theorem dX5_change_44 : decode cX5_change 44 = .ok (.getfield 69, 3) := by decide +kernel
theorem dX5_change_47 : decode cX5_change 47 = .ok (.iconst 1, 1) := by decide +kernel
theorem dX5_change_48 : decode cX5_change 48 = .ok (.iadd, 1) := by decide +kernel
theorem dX5_change_49 : decode cX5_change 49 = .ok (.putfield 69, 3) := by decide +kernel
theorem dX5_change_52 : decode cX5_change 52 = .ok (.iconst 0, 1) := by decide +kernel
theorem dX5_change_53 : decode cX5_change 53 = .ok (.istore 4, 2) := by decide +kernel
theorem dX5_change_55 : decode cX5_change 55 = .ok (.iload 4, 2) := by decide +kernel
theorem dX5_change_57 : decode cX5_change 57 = .ok (.aload_n 0, 1) := by decide +kernel
theorem dX5_change_58 : decode cX5_change 58 = .ok (.getfield 72, 3) := by decide +kernel
theorem dX5_change_61 : decode cX5_change 61 = .ok (.if_icmp .ge 27, 3) := by decide +kernel
theorem dX5_change_64 : decode cX5_change 64 = .ok (.aload_n 0, 1) := by decide +kernel
theorem dX5_change_65 : decode cX5_change 65 = .ok (.iload 4, 2) := by decide +kernel
theorem dX5_change_67 : decode cX5_change 67 = .ok (.iload_n 1, 1) := by decide +kernel
theorem dX5_change_68 : decode cX5_change 68 = .ok (.invokevirtual 101, 3) := by decide +kernel
theorem dX5_change_71 : decode cX5_change 71 = .ok (.ifCond .eq 11, 3) := by decide +kernel
theorem dX5_change_74 : decode cX5_change 74 = .ok (.aload_n 0, 1) := by decide +kernel
theorem dX5_change_75 : decode cX5_change 75 = .ok (.iload 4, 2) := by decide +kernel
theorem dX5_change_77 : decode cX5_change 77 = .ok (.iload_n 1, 1) := by decide +kernel
theorem dX5_change_78 : decode cX5_change 78 = .ok (.iload_n 3, 1) := by decide +kernel
theorem dX5_change_79 : decode cX5_change 79 = .ok (.invokevirtual 137, 3) := by decide +kernel
theorem dX5_change_82 : decode cX5_change 82 = .ok (.iinc 4 1, 3) := by decide +kernel
theorem dX5_change_85 : decode cX5_change 85 = .ok (.goto (-30), 3) := by decide +kernel
theorem dX5_change_88 : decode cX5_change 88 = .ok (.return_, 1) := by decide +kernel
theorem dX5_ask_0 : decode cX5_ask 0 = .ok (.aload_n 0, 1) := by decide +kernel
theorem dX5_ask_1 : decode cX5_ask 1 = .ok (.getfield 18, 3) := by decide +kernel
theorem dX5_ask_4 : decode cX5_ask 4 = .ok (.iload_n 1, 1) := by decide +kernel
theorem dX5_ask_5 : decode cX5_ask 5 = .ok (.aaload, 1) := by decide +kernel
theorem dX5_ask_6 : decode cX5_ask 6 = .ok (.astore 4, 2) := by decide +kernel
theorem dX5_ask_8 : decode cX5_ask 8 = .ok (.aload_n 0, 1) := by decide +kernel
theorem dX5_ask_9 : decode cX5_ask 9 = .ok (.iload_n 1, 1) := by decide +kernel
theorem dX5_ask_10 : decode cX5_ask 10 = .ok (.invokevirtual 105, 3) := by decide +kernel
theorem dX5_ask_13 : decode cX5_ask 13 = .ok (.ifCond .eq 66, 3) := by decide +kernel
theorem dX5_ask_16 : decode cX5_ask 16 = .ok (.aload_n 0, 1) := by decide +kernel
theorem dX5_ask_17 : decode cX5_ask 17 = .ok (.iload_n 1, 1) := by decide +kernel
theorem dX5_ask_18 : decode cX5_ask 18 = .ok (.invokevirtual 141, 3) := by decide +kernel
theorem dX5_ask_21 : decode cX5_ask 21 = .ok (.istore 5, 2) := by decide +kernel
theorem dX5_ask_23 : decode cX5_ask 23 = .ok (.aload_n 0, 1) := by decide +kernel
theorem dX5_ask_24 : decode cX5_ask 24 = .ok (.iload_n 1, 1) := by decide +kernel
theorem dX5_ask_25 : decode cX5_ask 25 = .ok (.invokevirtual 144, 3) := by decide +kernel
theorem dX5_ask_28 : decode cX5_ask 28 = .ok (.istore 6, 2) := by decide +kernel
theorem dX5_ask_30 : decode cX5_ask 30 = .ok (.iload 6, 2) := by decide +kernel
theorem dX5_ask_32 : decode cX5_ask 32 = .ok (.iload 5, 2) := by decide +kernel
theorem dX5_ask_34 : decode cX5_ask 34 = .ok (.if_icmp .ne 4, 3) := by decide +kernel
theorem dX5_ask_37 : decode cX5_ask 37 = .ok (.return_, 1) := by decide +kernel
theorem dX5_ask_38 : decode cX5_ask 38 = .ok (.iload 6, 2) := by decide +kernel
theorem dX5_ask_40 : decode cX5_ask 40 = .ok (.ifCond .lt 18, 3) := by decide +kernel
theorem dX5_ask_43 : decode cX5_ask 43 = .ok (.aload_n 0, 1) := by decide +kernel
theorem dX5_ask_44 : decode cX5_ask 44 = .ok (.iload_n 1, 1) := by decide +kernel
theorem dX5_ask_45 : decode cX5_ask 45 = .ok (.invokevirtual 147, 3) := by decide +kernel
theorem dX5_ask_48 : decode cX5_ask 48 = .ok (.aload_n 0, 1) := by decide +kernel
theorem dX5_ask_49 : decode cX5_ask 49 = .ok (.dup, 1) := by decide +kernel
theorem dX5_ask_50 : decode cX5_ask 50 = .ok (.getfield 63, 3) := by decide +kernel
theorem dX5_ask_53 : decode cX5_ask 53 = .ok (.iconst 1, 1) := by decide +kernel
theorem dX5_ask_54 : decode cX5_ask 54 = .ok (.iadd, 1) := by decide +kernel
theorem dX5_ask_55 : decode cX5_ask 55 = .ok (.putfield 63, 3) := by decide +kernel
theorem dX5_ask_58 : decode cX5_ask 58 = .ok (.iload 5, 2) := by decide +kernel
theorem dX5_ask_60 : decode cX5_ask 60 = .ok (.aload_n 0, 1) := by decide +kernel
theorem dX5_ask_61 : decode cX5_ask 61 = .ok (.aload 4, 2) := by decide +kernel
theorem dX5_ask_63 : decode cX5_ask 63 = .ok (.iconst 1, 1) := by decide +kernel
theorem dX5_ask_64 : decode cX5_ask 64 = .ok (.iaload, 1) := by decide +kernel
theorem dX5_ask_65 : decode cX5_ask 65 = .ok (.invokevirtual 126, 3) := by decide +kernel
theorem dX5_ask_68 : decode cX5_ask 68 = .ok (.if_icmp .eq 10, 3) := by decide +kernel
theorem dX5_ask_71 : decode cX5_ask 71 = .ok (.aload_n 0, 1) := by decide +kernel
theorem dX5_ask_72 : decode cX5_ask 72 = .ok (.iload_n 1, 1) := by decide +kernel
theorem dX5_ask_73 : decode cX5_ask 73 = .ok (.iload 5, 2) := by decide +kernel
theorem dX5_ask_75 : decode cX5_ask 75 = .ok (.invokevirtual 151, 3) := by decide +kernel
theorem dX5_ask_78 : decode cX5_ask 78 = .ok (.return_, 1) := by decide +kernel
theorem dX5_ask_79 : decode cX5_ask 79 = .ok (.aload 4, 2) := by decide +kernel
theorem dX5_ask_81 : decode cX5_ask 81 = .ok (.iconst 4, 1) := by decide +kernel
theorem dX5_ask_82 : decode cX5_ask 82 = .ok (.iaload, 1) := by decide +kernel
theorem dX5_ask_83 : decode cX5_ask 83 = .ok (.iload_n 2, 1) := by decide +kernel
theorem dX5_ask_84 : decode cX5_ask 84 = .ok (.if_icmp .ne 23, 3) := by decide +kernel
theorem dX5_ask_87 : decode cX5_ask 87 = .ok (.aload_n 0, 1) := by decide +kernel
theorem dX5_ask_88 : decode cX5_ask 88 = .ok (.iload_n 2, 1) := by decide +kernel
theorem dX5_ask_89 : decode cX5_ask 89 = .ok (.invokevirtual 126, 3) := by decide +kernel
theorem dX5_ask_92 : decode cX5_ask 92 = .ok (.iconst 1, 1) := by decide +kernel
theorem dX5_ask_93 : decode cX5_ask 93 = .ok (.if_icmp .ne 14, 3) := by decide +kernel
theorem dX5_ask_96 : decode cX5_ask 96 = .ok (.aload_n 0, 1) := by decide +kernel
theorem dX5_ask_97 : decode cX5_ask 97 = .ok (.iload_n 1, 1) := by decide +kernel
theorem dX5_ask_98 : decode cX5_ask 98 = .ok (.invokevirtual 147, 3) := by decide +kernel
theorem dX5_ask_101 : decode cX5_ask 101 = .ok (.aload_n 0, 1) := by decide +kernel
theorem dX5_ask_102 : decode cX5_ask 102 = .ok (.iload_n 1, 1) := by decide +kernel
theorem dX5_ask_103 : decode cX5_ask 103 = .ok (.iconst 0, 1) := by decide +kernel
theorem dX5_ask_104 : decode cX5_ask 104 = .ok (.invokevirtual 151, 3) := by decide +kernel
theorem dX5_ask_107 : decode cX5_ask 107 = .ok (.aload 4, 2) := by decide +kernel
theorem dX5_ask_109 : decode cX5_ask 109 = .ok (.iconst 3, 1) := by decide +kernel
theorem dX5_ask_110 : decode cX5_ask 110 = .ok (.iaload, 1) := by decide +kernel
theorem dX5_ask_111 : decode cX5_ask 111 = .ok (.iload_n 2, 1) := by decide +kernel
theorem dX5_ask_112 : decode cX5_ask 112 = .ok (.if_icmp .ne 130, 3) := by decide +kernel
theorem dX5_ask_115 : decode cX5_ask 115 = .ok (.iload_n 3, 1) := by decide +kernel
theorem dX5_ask_116 : decode cX5_ask 116 = .ok (.ifCond .ne 126, 3) := by decide +kernel
theorem dX5_ask_119 : decode cX5_ask 119 = .ok (.aload_n 0, 1) := by decide +kernel
theorem dX5_ask_120 : decode cX5_ask 120 = .ok (.iload_n 2, 1) := by decide +kernel
theorem dX5_ask_121 : decode cX5_ask 121 = .ok (.invokevirtual 126, 3) := by decide +kernel
theorem dX5_ask_124 : decode cX5_ask 124 = .ok (.iconst 1, 1) := by decide +kernel
theorem dX5_ask_125 : decode cX5_ask 125 = .ok (.if_icmp .ne 117, 3) := by decide +kernel
theorem dX5_ask_128 : decode cX5_ask 128 = .ok (.aload 4, 2) := by decide +kernel
theorem dX5_ask_130 : decode cX5_ask 130 = .ok (.iconst 4, 1) := by decide +kernel
theorem dX5_ask_131 : decode cX5_ask 131 = .ok (.iaload, 1) := by decide +kernel
theorem dX5_ask_132 : decode cX5_ask 132 = .ok (.ifCond .lt 14, 3) := by decide +kernel
theorem dX5_ask_135 : decode cX5_ask 135 = .ok (.aload_n 0, 1) := by decide +kernel
theorem dX5_ask_136 : decode cX5_ask 136 = .ok (.aload 4, 2) := by decide +kernel
theorem dX5_ask_138 : decode cX5_ask 138 = .ok (.iconst 4, 1) := by decide +kernel
theorem dX5_ask_139 : decode cX5_ask 139 = .ok (.iaload, 1) := by decide +kernel
theorem dX5_ask_140 : decode cX5_ask 140 = .ok (.invokevirtual 126, 3) := by decide +kernel
theorem dX5_ask_143 : decode cX5_ask 143 = .ok (.ifCond .ne 99, 3) := by decide +kernel
theorem dX5_ask_146 : decode cX5_ask 146 = .ok (.aload_n 0, 1) := by decide +kernel
theorem dX5_ask_147 : decode cX5_ask 147 = .ok (.getfield 22, 3) := by decide +kernel
theorem dX5_ask_150 : decode cX5_ask 150 = .ok (.aload 4, 2) := by decide +kernel
theorem dX5_ask_152 : decode cX5_ask 152 = .ok (.iconst 2, 1) := by decide +kernel
theorem dX5_ask_153 : decode cX5_ask 153 = .ok (.iaload, 1) := by decide +kernel
theorem dX5_ask_154 : decode cX5_ask 154 = .ok (.aaload, 1) := by decide +kernel
theorem dX5_ask_155 : decode cX5_ask 155 = .ok (.iconst 1, 1) := by decide +kernel
theorem dX5_ask_156 : decode cX5_ask 156 = .ok (.iaload, 1) := by decide +kernel
theorem dX5_ask_157 : decode cX5_ask 157 = .ok (.ifCond .lt 31, 3) := by decide +kernel
theorem dX5_ask_160 : decode cX5_ask 160 = .ok (.aload_n 0, 1) := by decide +kernel
theorem dX5_ask_161 : decode cX5_ask 161 = .ok (.getfield 60, 3) := by decide +kernel
theorem dX5_ask_164 : decode cX5_ask 164 = .ok (.aload_n 0, 1) := by decide +kernel
theorem dX5_ask_165 : decode cX5_ask 165 = .ok (.getfield 22, 3) := by decide +kernel
theorem dX5_ask_168 : decode cX5_ask 168 = .ok (.aload 4, 2) := by decide +kernel
theorem dX5_ask_170 : decode cX5_ask 170 = .ok (.iconst 2, 1) := by decide +kernel
theorem dX5_ask_171 : decode cX5_ask 171 = .ok (.iaload, 1) := by decide +kernel
theorem dX5_ask_172 : decode cX5_ask 172 = .ok (.aaload, 1) := by decide +kernel
theorem dX5_ask_173 : decode cX5_ask 173 = .ok (.iconst 1, 1) := by decide +kernel
theorem dX5_ask_174 : decode cX5_ask 174 = .ok (.iaload, 1) := by decide +kernel
theorem dX5_ask_175 : decode cX5_ask 175 = .ok (.isub, 1) := by decide +kernel
theorem dX5_ask_176 : decode cX5_ask 176 = .ok (.aload 4, 2) := by decide +kernel
theorem dX5_ask_178 : decode cX5_ask 178 = .ok (.bipush 6, 2) := by decide +kernel
theorem dX5_ask_180 : decode cX5_ask 180 = .ok (.iaload, 1) := by decide +kernel
theorem dX5_ask_181 : decode cX5_ask 181 = .ok (.if_icmp .ge 7, 3) := by decide +kernel
theorem dX5_ask_184 : decode cX5_ask 184 = .ok (.iconst 1, 1) := by decide +kernel
theorem dX5_ask_185 : decode cX5_ask 185 = .ok (.goto 4, 3) := by decide +kernel
theorem dX5_ask_188 : decode cX5_ask 188 = .ok (.iconst 0, 1) := by decide +kernel
theorem dX5_ask_189 : decode cX5_ask 189 = .ok (.istore 5, 2) := by decide +kernel
theorem dX5_ask_191 : decode cX5_ask 191 = .ok (.iload 5, 2) := by decide +kernel
theorem dX5_ask_193 : decode cX5_ask 193 = .ok (.ifCond .eq 12, 3) := by decide +kernel
theorem dX5_ask_196 : decode cX5_ask 196 = .ok (.aload_n 0, 1) := by decide +kernel
theorem dX5_ask_197 : decode cX5_ask 197 = .ok (.iconst 3, 1) := by decide +kernel
theorem dX5_ask_198 : decode cX5_ask 198 = .ok (.aload 4, 2) := by decide +kernel
theorem dX5_ask_200 : decode cX5_ask 200 = .ok (.iconst 1, 1) := by decide +kernel
theorem dX5_ask_201 : decode cX5_ask 201 = .ok (.iaload, 1) := by decide +kernel
theorem dX5_ask_202 : decode cX5_ask 202 = .ok (.invokevirtual 155, 3) := by decide +kernel
theorem dX5_ask_205 : decode cX5_ask 205 = .ok (.aload_n 0, 1) := by decide +kernel
theorem dX5_ask_206 : decode cX5_ask 206 = .ok (.getfield 28, 3) := by decide +kernel
theorem dX5_ask_209 : decode cX5_ask 209 = .ok (.iload_n 1, 1) := by decide +kernel
theorem dX5_ask_210 : decode cX5_ask 210 = .ok (.aload_n 0, 1) := by decide +kernel
theorem dX5_ask_211 : decode cX5_ask 211 = .ok (.getfield 60, 3) := by decide +kernel
theorem dX5_ask_214 : decode cX5_ask 214 = .ok (.iastore, 1) := by decide +kernel
theorem dX5_ask_215 : decode cX5_ask 215 = .ok (.aload_n 0, 1) := by decide +kernel
theorem dX5_ask_216 : decode cX5_ask 216 = .ok (.iload_n 1, 1) := by decide +kernel
theorem dX5_ask_217 : decode cX5_ask 217 = .ok (.invokevirtual 147, 3) := by decide +kernel
theorem dX5_ask_220 : decode cX5_ask 220 = .ok (.aload_n 0, 1) := by decide +kernel
theorem dX5_ask_221 : decode cX5_ask 221 = .ok (.iload_n 1, 1) := by decide +kernel
theorem dX5_ask_222 : decode cX5_ask 222 = .ok (.iload 5, 2) := by decide +kernel
theorem dX5_ask_224 : decode cX5_ask 224 = .ok (.ifCond .eq 7, 3) := by decide +kernel
theorem dX5_ask_227 : decode cX5_ask 227 = .ok (.iconst 2, 1) := by decide +kernel
theorem dX5_ask_228 : decode cX5_ask 228 = .ok (.goto 11, 3) := by decide +kernel
theorem dX5_ask_231 : decode cX5_ask 231 = .ok (.aload_n 0, 1) := by decide +kernel
theorem dX5_ask_232 : decode cX5_ask 232 = .ok (.aload 4, 2) := by decide +kernel
theorem dX5_ask_234 : decode cX5_ask 234 = .ok (.iconst 2, 1) := by decide +kernel
theorem dX5_ask_235 : decode cX5_ask 235 = .ok (.iaload, 1) := by decide +kernel
theorem dX5_ask_236 : decode cX5_ask 236 = .ok (.invokevirtual 126, 3) := by decide +kernel
theorem dX5_ask_239 : decode cX5_ask 239 = .ok (.invokevirtual 151, 3) := by decide +kernel
theorem dX5_ask_242 : decode cX5_ask 242 = .ok (.aload 4, 2) := by decide +kernel
theorem dX5_ask_244 : decode cX5_ask 244 = .ok (.iconst 2, 1) := by decide +kernel
theorem dX5_ask_245 : decode cX5_ask 245 = .ok (.iaload, 1) := by decide +kernel
theorem dX5_ask_246 : decode cX5_ask 246 = .ok (.iload_n 2, 1) := by decide +kernel
theorem dX5_ask_247 : decode cX5_ask 247 = .ok (.if_icmp .ne 42, 3) := by decide +kernel
theorem dX5_ask_250 : decode cX5_ask 250 = .ok (.aload_n 0, 1) := by decide +kernel
theorem dX5_ask_251 : decode cX5_ask 251 = .ok (.getfield 60, 3) := by decide +kernel
theorem dX5_ask_254 : decode cX5_ask 254 = .ok (.aload_n 0, 1) := by decide +kernel
theorem dX5_ask_255 : decode cX5_ask 255 = .ok (.getfield 28, 3) := by decide +kernel
theorem dX5_ask_258 : decode cX5_ask 258 = .ok (.iload_n 1, 1) := by decide +kernel
theorem dX5_ask_259 : decode cX5_ask 259 = .ok (.iaload, 1) := by decide +kernel
theorem dX5_ask_260 : decode cX5_ask 260 = .ok (.isub, 1) := by decide +kernel
theorem dX5_ask_261 : decode cX5_ask 261 = .ok (.aload 4, 2) := by decide +kernel
theorem dX5_ask_263 : decode cX5_ask 263 = .ok (.bipush 7, 2) := by decide +kernel
theorem dX5_ask_265 : decode cX5_ask 265 = .ok (.iaload, 1) := by decide +kernel
theorem dX5_ask_266 : decode cX5_ask 266 = .ok (.if_icmp .ge 23, 3) := by decide +kernel
theorem dX5_ask_269 : decode cX5_ask 269 = .ok (.aload_n 0, 1) := by decide +kernel
theorem dX5_ask_270 : decode cX5_ask 270 = .ok (.iconst 4, 1) := by decide +kernel
theorem dX5_ask_271 : decode cX5_ask 271 = .ok (.aload 4, 2) := by decide +kernel
theorem dX5_ask_273 : decode cX5_ask 273 = .ok (.iconst 1, 1) := by decide +kernel
theorem dX5_ask_274 : decode cX5_ask 274 = .ok (.iaload, 1) := by decide +kernel
theorem dX5_ask_275 : decode cX5_ask 275 = .ok (.invokevirtual 155, 3) := by decide +kernel
theorem dX5_ask_278 : decode cX5_ask 278 = .ok (.aload_n 0, 1) := by decide +kernel
theorem dX5_ask_279 : decode cX5_ask 279 = .ok (.iload_n 1, 1) := by decide +kernel
theorem dX5_ask_280 : decode cX5_ask 280 = .ok (.invokevirtual 147, 3) := by decide +kernel
theorem dX5_ask_283 : decode cX5_ask 283 = .ok (.aload_n 0, 1) := by decide +kernel
theorem dX5_ask_284 : decode cX5_ask 284 = .ok (.iload_n 1, 1) := by decide +kernel
theorem dX5_ask_285 : decode cX5_ask 285 = .ok (.iconst 2, 1) := by decide +kernel
theorem dX5_ask_286 : decode cX5_ask 286 = .ok (.invokevirtual 151, 3) := by decide +kernel
theorem dX5_ask_289 : decode cX5_ask 289 = .ok (.return_, 1) := by decide +kernel
theorem dX5_started_0 : decode cX5_started 0 = .ok (.aload_n 0, 1) := by decide +kernel
theorem dX5_started_1 : decode cX5_started 1 = .ok (.invokevirtual 41, 3) := by decide +kernel
theorem dX5_started_4 : decode cX5_started 4 = .ok (.aload_n 0, 1) := by decide +kernel
theorem dX5_started_5 : decode cX5_started 5 = .ok (.iconst 1, 1) := by decide +kernel
theorem dX5_started_6 : decode cX5_started 6 = .ok (.putfield 75, 3) := by decide +kernel
theorem dX5_started_9 : decode cX5_started 9 = .ok (.iconst 0, 1) := by decide +kernel
theorem dX5_started_10 : decode cX5_started 10 = .ok (.istore_n 1, 1) := by decide +kernel
theorem dX5_started_11 : decode cX5_started 11 = .ok (.iload_n 1, 1) := by decide +kernel
theorem dX5_started_12 : decode cX5_started 12 = .ok (.aload_n 0, 1) := by decide +kernel
theorem dX5_started_13 : decode cX5_started 13 = .ok (.getfield 72, 3) := by decide +kernel
theorem dX5_started_16 : decode cX5_started 16 = .ok (.if_icmp .ge 34, 3) := by decide +kernel
theorem dX5_started_19 : decode cX5_started 19 = .ok (.aload_n 0, 1) := by decide +kernel
theorem dX5_started_20 : decode cX5_started 20 = .ok (.getfield 18, 3) := by decide +kernel
theorem dX5_started_23 : decode cX5_started 23 = .ok (.iload_n 1, 1) := by decide +kernel
theorem dX5_started_24 : decode cX5_started 24 = .ok (.aaload, 1) := by decide +kernel
theorem dX5_started_25 : decode cX5_started 25 = .ok (.iconst 0, 1) := by decide +kernel
theorem dX5_started_26 : decode cX5_started 26 = .ok (.iaload, 1) := by decide +kernel
theorem dX5_started_27 : decode cX5_started 27 = .ok (.iconst (-1), 1) := by decide +kernel
theorem dX5_started_28 : decode cX5_started 28 = .ok (.if_icmp .ne 16, 3) := by decide +kernel
theorem dX5_started_31 : decode cX5_started 31 = .ok (.aload_n 0, 1) := by decide +kernel
theorem dX5_started_32 : decode cX5_started 32 = .ok (.aload_n 0, 1) := by decide +kernel
theorem dX5_started_33 : decode cX5_started 33 = .ok (.getfield 18, 3) := by decide +kernel
theorem dX5_started_36 : decode cX5_started 36 = .ok (.iload_n 1, 1) := by decide +kernel
theorem dX5_started_37 : decode cX5_started 37 = .ok (.aaload, 1) := by decide +kernel
theorem dX5_started_38 : decode cX5_started 38 = .ok (.iconst 1, 1) := by decide +kernel
theorem dX5_started_39 : decode cX5_started 39 = .ok (.iaload, 1) := by decide +kernel
theorem dX5_started_40 : decode cX5_started 40 = .ok (.iconst 0, 1) := by decide +kernel
theorem dX5_started_41 : decode cX5_started 41 = .ok (.invokevirtual 158, 3) := by decide +kernel
theorem dX5_started_44 : decode cX5_started 44 = .ok (.iinc 1 1, 3) := by decide +kernel
theorem dX5_started_47 : decode cX5_started 47 = .ok (.goto (-36), 3) := by decide +kernel
theorem dX5_started_50 : decode cX5_started 50 = .ok (.aload_n 0, 1) := by decide +kernel
theorem dX5_started_51 : decode cX5_started 51 = .ok (.getfield 25, 3) := by decide +kernel
theorem dX5_started_54 : decode cX5_started 54 = .ok (.arraylength, 1) := by decide +kernel
theorem dX5_started_55 : decode cX5_started 55 = .ok (.ireturn, 1) := by decide +kernel
theorem dX5_start_0 : decode cX5_start 0 = .ok (.aload_n 0, 1) := by decide +kernel
theorem dX5_start_1 : decode cX5_start 1 = .ok (.getfield 10, 3) := by decide +kernel
theorem dX5_start_4 : decode cX5_start 4 = .ok (.invokevirtual 168, 3) := by decide +kernel
theorem dX5_start_7 : decode cX5_start 7 = .ok (.istore_n 1, 1) := by decide +kernel
theorem dX5_start_8 : decode cX5_start 8 = .ok (.aload_n 0, 1) := by decide +kernel
theorem dX5_start_9 : decode cX5_start 9 = .ok (.invokevirtual 172, 3) := by decide +kernel
theorem dX5_start_12 : decode cX5_start 12 = .ok (.ifCond .eq 15, 3) := by decide +kernel
theorem dX5_start_15 : decode cX5_start 15 = .ok (.aload_n 0, 1) := by decide +kernel
theorem dX5_start_16 : decode cX5_start 16 = .ok (.invokevirtual 176, 3) := by decide +kernel
theorem dX5_start_19 : decode cX5_start 19 = .ok (.iload_n 1, 1) := by decide +kernel
theorem dX5_start_20 : decode cX5_start 20 = .ok (.if_icmp .ne 7, 3) := by decide +kernel
theorem dX5_start_23 : decode cX5_start 23 = .ok (.iconst 1, 1) := by decide +kernel
theorem dX5_start_24 : decode cX5_start 24 = .ok (.goto 4, 3) := by decide +kernel
theorem dX5_start_27 : decode cX5_start 27 = .ok (.iconst 0, 1) := by decide +kernel
theorem dX5_start_28 : decode cX5_start 28 = .ok (.ireturn, 1) := by decide +kernel
theorem dX5_start_29 : decode cX5_start 29 = .ok (.astore_n 1, 1) := by decide +kernel
theorem dX5_start_30 : decode cX5_start 30 = .ok (.aload_n 0, 1) := by decide +kernel
theorem dX5_start_31 : decode cX5_start 31 = .ok (.invokevirtual 172, 3) := by decide +kernel
theorem dX5_start_34 : decode cX5_start 34 = .ok (.ifCond .ne 7, 3) := by decide +kernel
theorem dX5_start_37 : decode cX5_start 37 = .ok (.iconst 1, 1) := by decide +kernel
theorem dX5_start_38 : decode cX5_start 38 = .ok (.goto 4, 3) := by decide +kernel
theorem dX5_start_41 : decode cX5_start 41 = .ok (.iconst 0, 1) := by decide +kernel
theorem dX5_start_42 : decode cX5_start 42 = .ok (.ireturn, 1) := by decide +kernel
theorem dJ6_bitCount_0f7a4_0 : decode cJ6_bitCount_0f7a4 0 = .ok (.iload_n 0, 1) := by decide +kernel
theorem dJ6_bitCount_0f7a4_1 : decode cJ6_bitCount_0f7a4 1 = .ok (.iload_n 0, 1) := by decide +kernel
theorem dJ6_bitCount_0f7a4_2 : decode cJ6_bitCount_0f7a4 2 = .ok (.iconst 1, 1) := by decide +kernel
theorem dJ6_bitCount_0f7a4_3 : decode cJ6_bitCount_0f7a4 3 = .ok (.iushr, 1) := by decide +kernel
theorem dJ6_bitCount_0f7a4_4 : decode cJ6_bitCount_0f7a4 4 = .ok (.ldc_w 265, 3) := by decide +kernel
theorem dJ6_bitCount_0f7a4_7 : decode cJ6_bitCount_0f7a4 7 = .ok (.iand, 1) := by decide +kernel
theorem dJ6_bitCount_0f7a4_8 : decode cJ6_bitCount_0f7a4 8 = .ok (.isub, 1) := by decide +kernel
theorem dJ6_bitCount_0f7a4_9 : decode cJ6_bitCount_0f7a4 9 = .ok (.istore_n 0, 1) := by decide +kernel
theorem dJ6_bitCount_0f7a4_10 : decode cJ6_bitCount_0f7a4 10 = .ok (.iload_n 0, 1) := by decide +kernel
theorem dJ6_bitCount_0f7a4_11 : decode cJ6_bitCount_0f7a4 11 = .ok (.ldc_w 266, 3) := by decide +kernel
theorem dJ6_bitCount_0f7a4_14 : decode cJ6_bitCount_0f7a4 14 = .ok (.iand, 1) := by decide +kernel
theorem dJ6_bitCount_0f7a4_15 : decode cJ6_bitCount_0f7a4 15 = .ok (.iload_n 0, 1) := by decide +kernel
theorem dJ6_bitCount_0f7a4_16 : decode cJ6_bitCount_0f7a4 16 = .ok (.iconst 2, 1) := by decide +kernel
theorem dJ6_bitCount_0f7a4_17 : decode cJ6_bitCount_0f7a4 17 = .ok (.iushr, 1) := by decide +kernel
theorem dJ6_bitCount_0f7a4_18 : decode cJ6_bitCount_0f7a4 18 = .ok (.ldc_w 266, 3) := by decide +kernel
theorem dJ6_bitCount_0f7a4_21 : decode cJ6_bitCount_0f7a4 21 = .ok (.iand, 1) := by decide +kernel
theorem dJ6_bitCount_0f7a4_22 : decode cJ6_bitCount_0f7a4 22 = .ok (.iadd, 1) := by decide +kernel
theorem dJ6_bitCount_0f7a4_23 : decode cJ6_bitCount_0f7a4 23 = .ok (.istore_n 0, 1) := by decide +kernel
theorem dJ6_bitCount_0f7a4_24 : decode cJ6_bitCount_0f7a4 24 = .ok (.iload_n 0, 1) := by decide +kernel
theorem dJ6_bitCount_0f7a4_25 : decode cJ6_bitCount_0f7a4 25 = .ok (.iload_n 0, 1) := by decide +kernel
theorem dJ6_bitCount_0f7a4_26 : decode cJ6_bitCount_0f7a4 26 = .ok (.iconst 4, 1) := by decide +kernel
theorem dJ6_bitCount_0f7a4_27 : decode cJ6_bitCount_0f7a4 27 = .ok (.iushr, 1) := by decide +kernel
theorem dJ6_bitCount_0f7a4_28 : decode cJ6_bitCount_0f7a4 28 = .ok (.iadd, 1) := by decide +kernel
theorem dJ6_bitCount_0f7a4_29 : decode cJ6_bitCount_0f7a4 29 = .ok (.ldc_w 267, 3) := by decide +kernel
theorem dJ6_bitCount_0f7a4_32 : decode cJ6_bitCount_0f7a4 32 = .ok (.iand, 1) := by decide +kernel
theorem dJ6_bitCount_0f7a4_33 : decode cJ6_bitCount_0f7a4 33 = .ok (.istore_n 0, 1) := by decide +kernel
theorem dJ6_bitCount_0f7a4_34 : decode cJ6_bitCount_0f7a4 34 = .ok (.iload_n 0, 1) := by decide +kernel
theorem dJ6_bitCount_0f7a4_35 : decode cJ6_bitCount_0f7a4 35 = .ok (.iload_n 0, 1) := by decide +kernel
theorem dJ6_bitCount_0f7a4_36 : decode cJ6_bitCount_0f7a4 36 = .ok (.bipush 8, 2) := by decide +kernel
theorem dJ6_bitCount_0f7a4_38 : decode cJ6_bitCount_0f7a4 38 = .ok (.iushr, 1) := by decide +kernel
theorem dJ6_bitCount_0f7a4_39 : decode cJ6_bitCount_0f7a4 39 = .ok (.iadd, 1) := by decide +kernel
theorem dJ6_bitCount_0f7a4_40 : decode cJ6_bitCount_0f7a4 40 = .ok (.istore_n 0, 1) := by decide +kernel
theorem dJ6_bitCount_0f7a4_41 : decode cJ6_bitCount_0f7a4 41 = .ok (.iload_n 0, 1) := by decide +kernel
theorem dJ6_bitCount_0f7a4_42 : decode cJ6_bitCount_0f7a4 42 = .ok (.iload_n 0, 1) := by decide +kernel
theorem dJ6_bitCount_0f7a4_43 : decode cJ6_bitCount_0f7a4 43 = .ok (.bipush 16, 2) := by decide +kernel
theorem dJ6_bitCount_0f7a4_45 : decode cJ6_bitCount_0f7a4 45 = .ok (.iushr, 1) := by decide +kernel
theorem dJ6_bitCount_0f7a4_46 : decode cJ6_bitCount_0f7a4 46 = .ok (.iadd, 1) := by decide +kernel
theorem dJ6_bitCount_0f7a4_47 : decode cJ6_bitCount_0f7a4 47 = .ok (.istore_n 0, 1) := by decide +kernel
theorem dJ6_bitCount_0f7a4_48 : decode cJ6_bitCount_0f7a4 48 = .ok (.iload_n 0, 1) := by decide +kernel
theorem dJ6_bitCount_0f7a4_49 : decode cJ6_bitCount_0f7a4 49 = .ok (.bipush 63, 2) := by decide +kernel
theorem dJ6_bitCount_0f7a4_51 : decode cJ6_bitCount_0f7a4 51 = .ok (.iand, 1) := by decide +kernel
theorem dJ6_bitCount_0f7a4_52 : decode cJ6_bitCount_0f7a4 52 = .ok (.ireturn, 1) := by decide +kernel
theorem dJ9_max_7cf53_0 : decode cJ9_max_7cf53 0 = .ok (.iload_n 0, 1) := by decide +kernel
theorem dJ9_max_7cf53_1 : decode cJ9_max_7cf53 1 = .ok (.iload_n 1, 1) := by decide +kernel
theorem dJ9_max_7cf53_2 : decode cJ9_max_7cf53 2 = .ok (.if_icmp .lt 7, 3) := by decide +kernel
theorem dJ9_max_7cf53_5 : decode cJ9_max_7cf53 5 = .ok (.iload_n 0, 1) := by decide +kernel
theorem dJ9_max_7cf53_6 : decode cJ9_max_7cf53 6 = .ok (.goto 4, 3) := by decide +kernel
theorem dJ9_max_7cf53_9 : decode cJ9_max_7cf53 9 = .ok (.iload_n 1, 1) := by decide +kernel
theorem dJ9_max_7cf53_10 : decode cJ9_max_7cf53 10 = .ok (.ireturn, 1) := by decide +kernel
theorem dJ7_fill_53178_0 : decode cJ7_fill_53178 0 = .ok (.iconst 0, 1) := by decide +kernel
theorem dJ7_fill_53178_1 : decode cJ7_fill_53178 1 = .ok (.istore_n 2, 1) := by decide +kernel
theorem dJ7_fill_53178_2 : decode cJ7_fill_53178 2 = .ok (.aload_n 0, 1) := by decide +kernel
theorem dJ7_fill_53178_3 : decode cJ7_fill_53178 3 = .ok (.arraylength, 1) := by decide +kernel
theorem dJ7_fill_53178_4 : decode cJ7_fill_53178 4 = .ok (.istore_n 3, 1) := by decide +kernel
theorem dJ7_fill_53178_5 : decode cJ7_fill_53178 5 = .ok (.iload_n 2, 1) := by decide +kernel
theorem dJ7_fill_53178_6 : decode cJ7_fill_53178 6 = .ok (.iload_n 3, 1) := by decide +kernel
theorem dJ7_fill_53178_7 : decode cJ7_fill_53178 7 = .ok (.if_icmp .ge 13, 3) := by decide +kernel
theorem dJ7_fill_53178_10 : decode cJ7_fill_53178 10 = .ok (.aload_n 0, 1) := by decide +kernel
theorem dJ7_fill_53178_11 : decode cJ7_fill_53178 11 = .ok (.iload_n 2, 1) := by decide +kernel
theorem dJ7_fill_53178_12 : decode cJ7_fill_53178 12 = .ok (.iload_n 1, 1) := by decide +kernel
theorem dJ7_fill_53178_13 : decode cJ7_fill_53178 13 = .ok (.iastore, 1) := by decide +kernel
theorem dJ7_fill_53178_14 : decode cJ7_fill_53178 14 = .ok (.iinc 2 1, 3) := by decide +kernel
theorem dJ7_fill_53178_17 : decode cJ7_fill_53178 17 = .ok (.goto (-12), 3) := by decide +kernel
theorem dJ7_fill_53178_20 : decode cJ7_fill_53178 20 = .ok (.return_, 1) := by decide +kernel
theorem dL_below_0 : decode cL_below 0 = .ok (.iload_n 0, 1) := by decide +kernel
theorem dL_below_1 : decode cL_below 1 = .ok (.ldc 7, 2) := by decide +kernel
theorem dL_below_3 : decode cL_below 3 = .ok (.iand, 1) := by decide +kernel
theorem dL_below_4 : decode cL_below 4 = .ok (.iload_n 1, 1) := by decide +kernel
theorem dL_below_5 : decode cL_below 5 = .ok (.irem, 1) := by decide +kernel
theorem dL_below_6 : decode cL_below 6 = .ok (.ireturn, 1) := by decide +kernel
theorem dL_cell_0 : decode cL_cell 0 = .ok (.iload_n 1, 1) := by decide +kernel
theorem dL_cell_1 : decode cL_cell 1 = .ok (.aload_n 0, 1) := by decide +kernel
theorem dL_cell_2 : decode cL_cell 2 = .ok (.arraylength, 1) := by decide +kernel
theorem dL_cell_3 : decode cL_cell 3 = .ok (.if_icmp .ge 9, 3) := by decide +kernel
theorem dL_cell_6 : decode cL_cell 6 = .ok (.aload_n 0, 1) := by decide +kernel
theorem dL_cell_7 : decode cL_cell 7 = .ok (.iload_n 1, 1) := by decide +kernel
theorem dL_cell_8 : decode cL_cell 8 = .ok (.iaload, 1) := by decide +kernel
theorem dL_cell_9 : decode cL_cell 9 = .ok (.goto 9, 3) := by decide +kernel
theorem dL_cell_12 : decode cL_cell 12 = .ok (.ldc 8, 2) := by decide +kernel
theorem dL_cell_14 : decode cL_cell 14 = .ok (.iload_n 1, 1) := by decide +kernel
theorem dL_cell_15 : decode cL_cell 15 = .ok (.iconst 3, 1) := by decide +kernel
theorem dL_cell_16 : decode cL_cell 16 = .ok (.iadd, 1) := by decide +kernel
theorem dL_cell_17 : decode cL_cell 17 = .ok (.imul, 1) := by decide +kernel
theorem dL_cell_18 : decode cL_cell 18 = .ok (.ireturn, 1) := by decide +kernel
theorem dL_law_0 : decode cL_law 0 = .ok (.iconst 0, 1) := by decide +kernel
theorem dL_law_1 : decode cL_law 1 = .ok (.istore_n 1, 1) := by decide +kernel
theorem dL_law_2 : decode cL_law 2 = .ok (.iload_n 1, 1) := by decide +kernel
theorem dL_law_3 : decode cL_law 3 = .ok (.iconst 3, 1) := by decide +kernel
theorem dL_law_4 : decode cL_law 4 = .ok (.if_icmp .ge 1161, 3) := by decide +kernel
theorem dL_law_7 : decode cL_law 7 = .ok (.new 9, 3) := by decide +kernel
theorem dL_law_10 : decode cL_law 10 = .ok (.dup, 1) := by decide +kernel
theorem dL_law_11 : decode cL_law 11 = .ok (.aload_n 0, 1) := by decide +kernel
theorem dL_law_12 : decode cL_law 12 = .ok (.bipush 31, 2) := by decide +kernel
theorem dL_law_14 : decode cL_law 14 = .ok (.iload_n 1, 1) := by decide +kernel
theorem dL_law_15 : decode cL_law 15 = .ok (.imul, 1) := by decide +kernel
theorem dL_law_16 : decode cL_law 16 = .ok (.bipush 7, 2) := by decide +kernel
theorem dL_law_18 : decode cL_law 18 = .ok (.iadd, 1) := by decide +kernel
theorem dL_law_19 : decode cL_law 19 = .ok (.invokespecial 11, 3) := by decide +kernel
theorem dL_law_22 : decode cL_law 22 = .ok (.astore_n 2, 1) := by decide +kernel
theorem dL_law_23 : decode cL_law 23 = .ok (.aload_n 2, 1) := by decide +kernel
theorem dL_law_24 : decode cL_law 24 = .ok (.getfield 14, 3) := by decide +kernel
theorem dL_law_27 : decode cL_law 27 = .ok (.astore_n 3, 1) := by decide +kernel
theorem dL_law_28 : decode cL_law 28 = .ok (.aload_n 2, 1) := by decide +kernel
theorem dL_law_29 : decode cL_law 29 = .ok (.iconst 0, 1) := by decide +kernel
theorem dL_law_30 : decode cL_law 30 = .ok (.invokevirtual 18, 3) := by decide +kernel
theorem dL_law_33 : decode cL_law 33 = .ok (.ifCond .eq 10, 3) := by decide +kernel
theorem dL_law_36 : decode cL_law 36 = .ok (.aload_n 2, 1) := by decide +kernel
theorem dL_law_37 : decode cL_law 37 = .ok (.invokevirtual 22, 3) := by decide +kernel
theorem dL_law_40 : decode cL_law 40 = .ok (.ifCond .ne 5, 3) := by decide +kernel
theorem dL_law_43 : decode cL_law 43 = .ok (.iconst 0, 1) := by decide +kernel
theorem dL_law_44 : decode cL_law 44 = .ok (.ireturn, 1) := by decide +kernel
theorem dL_law_45 : decode cL_law 45 = .ok (.iconst 0, 1) := by decide +kernel
theorem dL_law_46 : decode cL_law 46 = .ok (.istore 4, 2) := by decide +kernel
theorem dL_law_48 : decode cL_law 48 = .ok (.iload 4, 2) := by decide +kernel
theorem dL_law_50 : decode cL_law 50 = .ok (.bipush 24, 2) := by decide +kernel
theorem dL_law_52 : decode cL_law 52 = .ok (.if_icmp .ge 153, 3) := by decide +kernel
theorem dL_law_55 : decode cL_law 55 = .ok (.aload_n 2, 1) := by decide +kernel
theorem dL_law_56 : decode cL_law 56 = .ok (.iload 4, 2) := by decide +kernel
theorem dL_law_58 : decode cL_law 58 = .ok (.invokevirtual 26, 3) := by decide +kernel
theorem dL_law_61 : decode cL_law 61 = .ok (.istore 5, 2) := by decide +kernel
theorem dL_law_63 : decode cL_law 63 = .ok (.aload_n 2, 1) := by decide +kernel
theorem dL_law_64 : decode cL_law 64 = .ok (.iload 5, 2) := by decide +kernel
theorem dL_law_66 : decode cL_law 66 = .ok (.invokevirtual 30, 3) := by decide +kernel
theorem dL_law_69 : decode cL_law 69 = .ok (.ifCond .eq 130, 3) := by decide +kernel
theorem dL_law_72 : decode cL_law 72 = .ok (.aload_n 3, 1) := by decide +kernel
theorem dL_law_73 : decode cL_law 73 = .ok (.iload 4, 2) := by decide +kernel
theorem dL_law_75 : decode cL_law 75 = .ok (.invokevirtual 33, 3) := by decide +kernel
theorem dL_law_78 : decode cL_law 78 = .ok (.ifCond .ge 6, 3) := by decide +kernel
theorem dL_law_81 : decode cL_law 81 = .ok (.goto 118, 3) := by decide +kernel
theorem dL_law_84 : decode cL_law 84 = .ok (.iconst 0, 1) := by decide +kernel
theorem dL_law_85 : decode cL_law 85 = .ok (.istore 6, 2) := by decide +kernel
theorem dL_law_87 : decode cL_law 87 = .ok (.iconst 2, 1) := by decide +kernel
theorem dL_law_88 : decode cL_law 88 = .ok (.istore 7, 2) := by decide +kernel
theorem dL_law_90 : decode cL_law 90 = .ok (.iload 7, 2) := by decide +kernel
theorem dL_law_92 : decode cL_law 92 = .ok (.iconst 5, 1) := by decide +kernel
theorem dL_law_93 : decode cL_law 93 = .ok (.if_icmp .ge 48, 3) := by decide +kernel
theorem dL_law_96 : decode cL_law 96 = .ok (.aload_n 2, 1) := by decide +kernel
theorem dL_law_97 : decode cL_law 97 = .ok (.getfield 38, 3) := by decide +kernel
theorem dL_law_100 : decode cL_law 100 = .ok (.iload 5, 2) := by decide +kernel
theorem dL_law_102 : decode cL_law 102 = .ok (.aaload, 1) := by decide +kernel
theorem dL_law_103 : decode cL_law 103 = .ok (.iload 7, 2) := by decide +kernel
theorem dL_law_105 : decode cL_law 105 = .ok (.iaload, 1) := by decide +kernel
theorem dL_law_106 : decode cL_law 106 = .ok (.ifCond .ge 8, 3) := by decide +kernel
theorem dL_law_109 : decode cL_law 109 = .ok (.iload 6, 2) := by decide +kernel
theorem dL_law_111 : decode cL_law 111 = .ok (.goto 22, 3) := by decide +kernel
theorem dL_law_114 : decode cL_law 114 = .ok (.iload 6, 2) := by decide +kernel
theorem dL_law_116 : decode cL_law 116 = .ok (.aload_n 3, 1) := by decide +kernel
theorem dL_law_117 : decode cL_law 117 = .ok (.aload_n 2, 1) := by decide +kernel
theorem dL_law_118 : decode cL_law 118 = .ok (.getfield 38, 3) := by decide +kernel
theorem dL_law_121 : decode cL_law 121 = .ok (.iload 5, 2) := by decide +kernel
theorem dL_law_123 : decode cL_law 123 = .ok (.aaload, 1) := by decide +kernel
theorem dL_law_124 : decode cL_law 124 = .ok (.iload 7, 2) := by decide +kernel
theorem dL_law_126 : decode cL_law 126 = .ok (.iaload, 1) := by decide +kernel
theorem dL_law_127 : decode cL_law 127 = .ok (.invokevirtual 33, 3) := by decide +kernel
theorem dL_law_130 : decode cL_law 130 = .ok (.invokestatic 42, 3) := by decide +kernel
theorem dL_law_133 : decode cL_law 133 = .ok (.istore 6, 2) := by decide +kernel
theorem dL_law_135 : decode cL_law 135 = .ok (.iinc 7 1, 3) := by decide +kernel
theorem dL_law_138 : decode cL_law 138 = .ok (.goto (-48), 3) := by decide +kernel
theorem dL_law_141 : decode cL_law 141 = .ok (.aload_n 3, 1) := by decide +kernel
theorem dL_law_142 : decode cL_law 142 = .ok (.iload 4, 2) := by decide +kernel
theorem dL_law_144 : decode cL_law 144 = .ok (.invokevirtual 33, 3) := by decide +kernel
theorem dL_law_147 : decode cL_law 147 = .ok (.iload 6, 2) := by decide +kernel
theorem dL_law_149 : decode cL_law 149 = .ok (.aload_n 2, 1) := by decide +kernel
theorem dL_law_150 : decode cL_law 150 = .ok (.getfield 38, 3) := by decide +kernel
theorem dL_law_153 : decode cL_law 153 = .ok (.iload 5, 2) := by decide +kernel
theorem dL_law_155 : decode cL_law 155 = .ok (.aaload, 1) := by decide +kernel
theorem dL_law_156 : decode cL_law 156 = .ok (.iconst 5, 1) := by decide +kernel
theorem dL_law_157 : decode cL_law 157 = .ok (.iaload, 1) := by decide +kernel
theorem dL_law_158 : decode cL_law 158 = .ok (.iadd, 1) := by decide +kernel
theorem dL_law_159 : decode cL_law 159 = .ok (.if_icmp .ne 38, 3) := by decide +kernel
theorem dL_law_162 : decode cL_law 162 = .ok (.aload_n 3, 1) := by decide +kernel
theorem dL_law_163 : decode cL_law 163 = .ok (.iload 4, 2) := by decide +kernel
theorem dL_law_165 : decode cL_law 165 = .ok (.invokevirtual 33, 3) := by decide +kernel
theorem dL_law_168 : decode cL_law 168 = .ok (.aload_n 3, 1) := by decide +kernel
theorem dL_law_169 : decode cL_law 169 = .ok (.invokevirtual 48, 3) := by decide +kernel
theorem dL_law_172 : decode cL_law 172 = .ok (.if_icmp .gt 25, 3) := by decide +kernel
theorem dL_law_175 : decode cL_law 175 = .ok (.aload_n 3, 1) := by decide +kernel
theorem dL_law_176 : decode cL_law 176 = .ok (.iload 5, 2) := by decide +kernel
theorem dL_law_178 : decode cL_law 178 = .ok (.aload_n 2, 1) := by decide +kernel
theorem dL_law_179 : decode cL_law 179 = .ok (.getfield 38, 3) := by decide +kernel
theorem dL_law_182 : decode cL_law 182 = .ok (.iload 5, 2) := by decide +kernel
theorem dL_law_184 : decode cL_law 184 = .ok (.aaload, 1) := by decide +kernel
theorem dL_law_185 : decode cL_law 185 = .ok (.iconst 5, 1) := by decide +kernel
theorem dL_law_186 : decode cL_law 186 = .ok (.iaload, 1) := by decide +kernel
theorem dL_law_187 : decode cL_law 187 = .ok (.invokevirtual 52, 3) := by decide +kernel
theorem dL_law_190 : decode cL_law 190 = .ok (.aload_n 3, 1) := by decide +kernel
theorem dL_law_191 : decode cL_law 191 = .ok (.invokevirtual 48, 3) := by decide +kernel
theorem dL_law_194 : decode cL_law 194 = .ok (.if_icmp .eq 5, 3) := by decide +kernel
theorem dL_law_197 : decode cL_law 197 = .ok (.iconst 0, 1) := by decide +kernel
theorem dL_law_198 : decode cL_law 198 = .ok (.ireturn, 1) := by decide +kernel
theorem dL_law_199 : decode cL_law 199 = .ok (.iinc 4 1, 3) := by decide +kernel
theorem dL_law_202 : decode cL_law 202 = .ok (.goto (-154), 3) := by decide +kernel
theorem dL_law_205 : decode cL_law 205 = .ok (.iconst 0, 1) := by decide +kernel
theorem dL_law_206 : decode cL_law 206 = .ok (.istore 4, 2) := by decide +kernel
theorem dL_law_208 : decode cL_law 208 = .ok (.aload_n 3, 1) := by decide +kernel
theorem dL_law_209 : decode cL_law 209 = .ok (.iload 4, 2) := by decide +kernel
theorem dL_law_211 : decode cL_law 211 = .ok (.iconst 1, 1) := by decide +kernel
theorem dL_law_212 : decode cL_law 212 = .ok (.iadd, 1) := by decide +kernel
theorem dL_law_213 : decode cL_law 213 = .ok (.invokevirtual 55, 3) := by decide +kernel
theorem dL_law_216 : decode cL_law 216 = .ok (.ifCond .lt 85, 3) := by decide +kernel
theorem dL_law_219 : decode cL_law 219 = .ok (.iload 4, 2) := by decide +kernel
theorem dL_law_221 : decode cL_law 221 = .ok (.bipush 24, 2) := by decide +kernel
theorem dL_law_223 : decode cL_law 223 = .ok (.if_icmp .gt 70, 3) := by decide +kernel
theorem dL_law_226 : decode cL_law 226 = .ok (.aload_n 2, 1) := by decide +kernel
theorem dL_law_227 : decode cL_law 227 = .ok (.aload_n 2, 1) := by decide +kernel
theorem dL_law_228 : decode cL_law 228 = .ok (.aload_n 3, 1) := by decide +kernel
theorem dL_law_229 : decode cL_law 229 = .ok (.iload 4, 2) := by decide +kernel
theorem dL_law_231 : decode cL_law 231 = .ok (.invokevirtual 55, 3) := by decide +kernel
theorem dL_law_234 : decode cL_law 234 = .ok (.invokevirtual 26, 3) := by decide +kernel
theorem dL_law_237 : decode cL_law 237 = .ok (.invokevirtual 30, 3) := by decide +kernel
theorem dL_law_240 : decode cL_law 240 = .ok (.ifCond .eq 53, 3) := by decide +kernel
theorem dL_law_243 : decode cL_law 243 = .ok (.aload_n 2, 1) := by decide +kernel
theorem dL_law_244 : decode cL_law 244 = .ok (.aload_n 2, 1) := by decide +kernel
theorem dL_law_245 : decode cL_law 245 = .ok (.aload_n 3, 1) := by decide +kernel
theorem dL_law_246 : decode cL_law 246 = .ok (.iload 4, 2) := by decide +kernel
theorem dL_law_248 : decode cL_law 248 = .ok (.invokevirtual 55, 3) := by decide +kernel
theorem dL_law_251 : decode cL_law 251 = .ok (.invokevirtual 26, 3) := by decide +kernel
theorem dL_law_254 : decode cL_law 254 = .ok (.aload_n 3, 1) := by decide +kernel
theorem dL_law_255 : decode cL_law 255 = .ok (.iload 4, 2) := by decide +kernel
theorem dL_law_257 : decode cL_law 257 = .ok (.iconst 1, 1) := by decide +kernel
theorem dL_law_258 : decode cL_law 258 = .ok (.iadd, 1) := by decide +kernel
theorem dL_law_259 : decode cL_law 259 = .ok (.invokevirtual 55, 3) := by decide +kernel
theorem dL_law_262 : decode cL_law 262 = .ok (.invokevirtual 58, 3) := by decide +kernel
theorem dL_law_265 : decode cL_law 265 = .ok (.ifCond .eq 28, 3) := by decide +kernel
theorem dL_law_268 : decode cL_law 268 = .ok (.aload_n 3, 1) := by decide +kernel
theorem dL_law_269 : decode cL_law 269 = .ok (.aload_n 3, 1) := by decide +kernel
theorem dL_law_270 : decode cL_law 270 = .ok (.iload 4, 2) := by decide +kernel
theorem dL_law_272 : decode cL_law 272 = .ok (.iconst 1, 1) := by decide +kernel
theorem dL_law_273 : decode cL_law 273 = .ok (.iadd, 1) := by decide +kernel
theorem dL_law_274 : decode cL_law 274 = .ok (.invokevirtual 55, 3) := by decide +kernel
theorem dL_law_277 : decode cL_law 277 = .ok (.invokevirtual 33, 3) := by decide +kernel
theorem dL_law_280 : decode cL_law 280 = .ok (.aload_n 3, 1) := by decide +kernel
theorem dL_law_281 : decode cL_law 281 = .ok (.aload_n 3, 1) := by decide +kernel
theorem dL_law_282 : decode cL_law 282 = .ok (.iload 4, 2) := by decide +kernel
theorem dL_law_284 : decode cL_law 284 = .ok (.invokevirtual 55, 3) := by decide +kernel
theorem dL_law_287 : decode cL_law 287 = .ok (.invokevirtual 33, 3) := by decide +kernel
theorem dL_law_290 : decode cL_law 290 = .ok (.if_icmp .le 5, 3) := by decide +kernel
theorem dL_law_293 : decode cL_law 293 = .ok (.iconst 0, 1) := by decide +kernel
theorem dL_law_294 : decode cL_law 294 = .ok (.ireturn, 1) := by decide +kernel
theorem dL_law_295 : decode cL_law 295 = .ok (.iinc 4 1, 3) := by decide +kernel
theorem dL_law_298 : decode cL_law 298 = .ok (.goto (-90), 3) := by decide +kernel
theorem dL_law_301 : decode cL_law 301 = .ok (.aload_n 2, 1) := by decide +kernel
theorem dL_law_302 : decode cL_law 302 = .ok (.aload_n 2, 1) := by decide +kernel
theorem dL_law_303 : decode cL_law 303 = .ok (.aload_n 3, 1) := by decide +kernel
theorem dL_law_304 : decode cL_law 304 = .ok (.iload 4, 2) := by decide +kernel
theorem dL_law_306 : decode cL_law 306 = .ok (.invokevirtual 55, 3) := by decide +kernel
theorem dL_law_309 : decode cL_law 309 = .ok (.invokevirtual 26, 3) := by decide +kernel
theorem dL_law_312 : decode cL_law 312 = .ok (.invokevirtual 30, 3) := by decide +kernel
theorem dL_law_315 : decode cL_law 315 = .ok (.ifCond .ne 19, 3) := by decide +kernel
theorem dL_law_318 : decode cL_law 318 = .ok (.aload_n 3, 1) := by decide +kernel
theorem dL_law_319 : decode cL_law 319 = .ok (.aload_n 3, 1) := by decide +kernel
theorem dL_law_320 : decode cL_law 320 = .ok (.iconst 0, 1) := by decide +kernel
theorem dL_law_321 : decode cL_law 321 = .ok (.invokevirtual 55, 3) := by decide +kernel
theorem dL_law_324 : decode cL_law 324 = .ok (.invokevirtual 33, 3) := by decide +kernel
theorem dL_law_327 : decode cL_law 327 = .ok (.aload_n 3, 1) := by decide +kernel
theorem dL_law_328 : decode cL_law 328 = .ok (.invokevirtual 48, 3) := by decide +kernel
theorem dL_law_331 : decode cL_law 331 = .ok (.if_icmp .eq 5, 3) := by decide +kernel
theorem dL_law_334 : decode cL_law 334 = .ok (.iconst 0, 1) := by decide +kernel
theorem dL_law_335 : decode cL_law 335 = .ok (.ireturn, 1) := by decide +kernel
theorem dL_law_336 : decode cL_law 336 = .ok (.iconst 0, 1) := by decide +kernel
theorem dL_law_337 : decode cL_law 337 = .ok (.istore 5, 2) := by decide +kernel
theorem dL_law_339 : decode cL_law 339 = .ok (.iload 5, 2) := by decide +kernel
theorem dL_law_341 : decode cL_law 341 = .ok (.bipush 10, 2) := by decide +kernel
theorem dL_law_343 : decode cL_law 343 = .ok (.if_icmp .ge 816, 3) := by decide +kernel
theorem dL_law_346 : decode cL_law 346 = .ok (.aload_n 3, 1) := by decide +kernel
theorem dL_law_347 : decode cL_law 347 = .ok (.iconst 5, 1) := by decide +kernel
theorem dL_law_348 : decode cL_law 348 = .ok (.invokevirtual 62, 3) := by decide +kernel
theorem dL_law_351 : decode cL_law 351 = .ok (.istore 6, 2) := by decide +kernel
theorem dL_law_353 : decode cL_law 353 = .ok (.aload_n 2, 1) := by decide +kernel
theorem dL_law_354 : decode cL_law 354 = .ok (.iconst 4, 1) := by decide +kernel
theorem dL_law_355 : decode cL_law 355 = .ok (.invokevirtual 65, 3) := by decide +kernel
theorem dL_law_358 : decode cL_law 358 = .ok (.istore 7, 2) := by decide +kernel
theorem dL_law_360 : decode cL_law 360 = .ok (.aload_n 3, 1) := by decide +kernel
theorem dL_law_361 : decode cL_law 361 = .ok (.iload 7, 2) := by decide +kernel
theorem dL_law_363 : decode cL_law 363 = .ok (.iconst 0, 1) := by decide +kernel
theorem dL_law_364 : decode cL_law 364 = .ok (.invokevirtual 68, 3) := by decide +kernel
theorem dL_law_367 : decode cL_law 367 = .ok (.istore 8, 2) := by decide +kernel
theorem dL_law_369 : decode cL_law 369 = .ok (.aload_n 2, 1) := by decide +kernel
theorem dL_law_370 : decode cL_law 370 = .ok (.iconst 2, 1) := by decide +kernel
theorem dL_law_371 : decode cL_law 371 = .ok (.invokevirtual 65, 3) := by decide +kernel
theorem dL_law_374 : decode cL_law 374 = .ok (.istore 9, 2) := by decide +kernel
theorem dL_law_376 : decode cL_law 376 = .ok (.aload_n 3, 1) := by decide +kernel
theorem dL_law_377 : decode cL_law 377 = .ok (.iload 7, 2) := by decide +kernel
theorem dL_law_379 : decode cL_law 379 = .ok (.iload 9, 2) := by decide +kernel
theorem dL_law_381 : decode cL_law 381 = .ok (.invokevirtual 71, 3) := by decide +kernel
theorem dL_law_384 : decode cL_law 384 = .ok (.iload 8, 2) := by decide +kernel
theorem dL_law_386 : decode cL_law 386 = .ok (.if_icmp .ne 55, 3) := by decide +kernel
theorem dL_law_389 : decode cL_law 389 = .ok (.aload_n 3, 1) := by decide +kernel
theorem dL_law_390 : decode cL_law 390 = .ok (.iconst 5, 1) := by decide +kernel
theorem dL_law_391 : decode cL_law 391 = .ok (.invokevirtual 62, 3) := by decide +kernel
theorem dL_law_394 : decode cL_law 394 = .ok (.iload 6, 2) := by decide +kernel
theorem dL_law_396 : decode cL_law 396 = .ok (.iload 8, 2) := by decide +kernel
theorem dL_law_398 : decode cL_law 398 = .ok (.iload 9, 2) := by decide +kernel
theorem dL_law_400 : decode cL_law 400 = .ok (.if_icmp .ne 7, 3) := by decide +kernel
theorem dL_law_403 : decode cL_law 403 = .ok (.iconst 0, 1) := by decide +kernel
theorem dL_law_404 : decode cL_law 404 = .ok (.goto 4, 3) := by decide +kernel
theorem dL_law_407 : decode cL_law 407 = .ok (.iconst 1, 1) := by decide +kernel
theorem dL_law_408 : decode cL_law 408 = .ok (.iadd, 1) := by decide +kernel
theorem dL_law_409 : decode cL_law 409 = .ok (.if_icmp .ne 32, 3) := by decide +kernel
theorem dL_law_412 : decode cL_law 412 = .ok (.aload_n 3, 1) := by decide +kernel
theorem dL_law_413 : decode cL_law 413 = .ok (.iload 7, 2) := by decide +kernel
theorem dL_law_415 : decode cL_law 415 = .ok (.iconst 0, 1) := by decide +kernel
theorem dL_law_416 : decode cL_law 416 = .ok (.invokevirtual 68, 3) := by decide +kernel
theorem dL_law_419 : decode cL_law 419 = .ok (.iload 9, 2) := by decide +kernel
theorem dL_law_421 : decode cL_law 421 = .ok (.if_icmp .ne 20, 3) := by decide +kernel
theorem dL_law_424 : decode cL_law 424 = .ok (.iload 8, 2) := by decide +kernel
theorem dL_law_426 : decode cL_law 426 = .ok (.iload 9, 2) := by decide +kernel
theorem dL_law_428 : decode cL_law 428 = .ok (.if_icmp .ne 15, 3) := by decide +kernel
theorem dL_law_431 : decode cL_law 431 = .ok (.aload_n 3, 1) := by decide +kernel
theorem dL_law_432 : decode cL_law 432 = .ok (.iload 7, 2) := by decide +kernel
theorem dL_law_434 : decode cL_law 434 = .ok (.invokevirtual 74, 3) := by decide +kernel
theorem dL_law_437 : decode cL_law 437 = .ok (.iconst (-1), 1) := by decide +kernel
theorem dL_law_438 : decode cL_law 438 = .ok (.if_icmp .eq 5, 3) := by decide +kernel
theorem dL_law_441 : decode cL_law 441 = .ok (.iconst 0, 1) := by decide +kernel
theorem dL_law_442 : decode cL_law 442 = .ok (.ireturn, 1) := by decide +kernel
theorem dL_law_443 : decode cL_law 443 = .ok (.aload_n 3, 1) := by decide +kernel
theorem dL_law_444 : decode cL_law 444 = .ok (.iconst 5, 1) := by decide +kernel
theorem dL_law_445 : decode cL_law 445 = .ok (.invokevirtual 62, 3) := by decide +kernel
theorem dL_law_448 : decode cL_law 448 = .ok (.istore 6, 2) := by decide +kernel
theorem dL_law_450 : decode cL_law 450 = .ok (.aload_n 3, 1) := by decide +kernel
theorem dL_law_451 : decode cL_law 451 = .ok (.invokevirtual 77, 3) := by decide +kernel
theorem dL_law_454 : decode cL_law 454 = .ok (.lstore 10, 2) := by decide +kernel
theorem dL_law_456 : decode cL_law 456 = .ok (.aload_n 3, 1) := by decide +kernel
theorem dL_law_457 : decode cL_law 457 = .ok (.iconst 0, 1) := by decide +kernel
theorem dL_law_458 : decode cL_law 458 = .ok (.invokevirtual 62, 3) := by decide +kernel
theorem dL_law_461 : decode cL_law 461 = .ok (.istore 12, 2) := by decide +kernel
theorem dL_law_463 : decode cL_law 463 = .ok (.aload_n 3, 1) := by decide +kernel
theorem dL_law_464 : decode cL_law 464 = .ok (.iconst 1, 1) := by decide +kernel
theorem dL_law_465 : decode cL_law 465 = .ok (.invokevirtual 62, 3) := by decide +kernel
theorem dL_law_468 : decode cL_law 468 = .ok (.ifCond .le 7, 3) := by decide +kernel
theorem dL_law_471 : decode cL_law 471 = .ok (.iconst 1, 1) := by decide +kernel
theorem dL_law_472 : decode cL_law 472 = .ok (.goto 4, 3) := by decide +kernel
theorem dL_law_475 : decode cL_law 475 = .ok (.iconst 0, 1) := by decide +kernel
theorem dL_law_476 : decode cL_law 476 = .ok (.aload_n 3, 1) := by decide +kernel
theorem dL_law_477 : decode cL_law 477 = .ok (.iconst 2, 1) := by decide +kernel
theorem dL_law_478 : decode cL_law 478 = .ok (.invokevirtual 62, 3) := by decide +kernel
theorem dL_law_481 : decode cL_law 481 = .ok (.ifCond .lt 7, 3) := by decide +kernel
theorem dL_law_484 : decode cL_law 484 = .ok (.iconst 1, 1) := by decide +kernel
theorem dL_law_485 : decode cL_law 485 = .ok (.goto 4, 3) := by decide +kernel
theorem dL_law_488 : decode cL_law 488 = .ok (.iconst 0, 1) := by decide +kernel
theorem dL_law_489 : decode cL_law 489 = .ok (.if_icmp .ne 21, 3) := by decide +kernel
theorem dL_law_492 : decode cL_law 492 = .ok (.aload_n 3, 1) := by decide +kernel
theorem dL_law_493 : decode cL_law 493 = .ok (.iconst 2, 1) := by decide +kernel
theorem dL_law_494 : decode cL_law 494 = .ok (.invokevirtual 62, 3) := by decide +kernel
theorem dL_law_497 : decode cL_law 497 = .ok (.ifCond .lt 15, 3) := by decide +kernel
theorem dL_law_500 : decode cL_law 500 = .ok (.aload_n 3, 1) := by decide +kernel
theorem dL_law_501 : decode cL_law 501 = .ok (.iconst 2, 1) := by decide +kernel
theorem dL_law_502 : decode cL_law 502 = .ok (.invokevirtual 62, 3) := by decide +kernel
theorem dL_law_505 : decode cL_law 505 = .ok (.iload 12, 2) := by decide +kernel
theorem dL_law_507 : decode cL_law 507 = .ok (.if_icmp .ge 5, 3) := by decide +kernel
theorem dL_law_510 : decode cL_law 510 = .ok (.iconst 0, 1) := by decide +kernel
theorem dL_law_511 : decode cL_law 511 = .ok (.ireturn, 1) := by decide +kernel
theorem dL_law_512 : decode cL_law 512 = .ok (.iconst 0, 1) := by decide +kernel
theorem dL_law_513 : decode cL_law 513 = .ok (.istore 13, 2) := by decide +kernel
theorem dL_law_515 : decode cL_law 515 = .ok (.iload 13, 2) := by decide +kernel
theorem dL_law_517 : decode cL_law 517 = .ok (.bipush 24, 2) := by decide +kernel
theorem dL_law_519 : decode cL_law 519 = .ok (.if_icmp .ge 75, 3) := by decide +kernel
theorem dL_law_522 : decode cL_law 522 = .ok (.aload_n 3, 1) := by decide +kernel
theorem dL_law_523 : decode cL_law 523 = .ok (.iload 13, 2) := by decide +kernel
theorem dL_law_525 : decode cL_law 525 = .ok (.iconst 0, 1) := by decide +kernel
theorem dL_law_526 : decode cL_law 526 = .ok (.invokevirtual 68, 3) := by decide +kernel
theorem dL_law_529 : decode cL_law 529 = .ok (.ifCond .lt 57, 3) := by decide +kernel
theorem dL_law_532 : decode cL_law 532 = .ok (.aload_n 3, 1) := by decide +kernel
theorem dL_law_533 : decode cL_law 533 = .ok (.iload 13, 2) := by decide +kernel
theorem dL_law_535 : decode cL_law 535 = .ok (.iconst 0, 1) := by decide +kernel
theorem dL_law_536 : decode cL_law 536 = .ok (.invokevirtual 68, 3) := by decide +kernel
theorem dL_law_539 : decode cL_law 539 = .ok (.iconst 2, 1) := by decide +kernel
theorem dL_law_540 : decode cL_law 540 = .ok (.if_icmp .gt 46, 3) := by decide +kernel
theorem dL_law_543 : decode cL_law 543 = .ok (.aload_n 3, 1) := by decide +kernel
theorem dL_law_544 : decode cL_law 544 = .ok (.iload 13, 2) := by decide +kernel
theorem dL_law_546 : decode cL_law 546 = .ok (.iconst 1, 1) := by decide +kernel
theorem dL_law_547 : decode cL_law 547 = .ok (.invokevirtual 68, 3) := by decide +kernel
theorem dL_law_550 : decode cL_law 550 = .ok (.iload 12, 2) := by decide +kernel
theorem dL_law_552 : decode cL_law 552 = .ok (.if_icmp .gt 34, 3) := by decide +kernel
theorem dL_law_555 : decode cL_law 555 = .ok (.aload_n 3, 1) := by decide +kernel
theorem dL_law_556 : decode cL_law 556 = .ok (.iload 13, 2) := by decide +kernel
theorem dL_law_558 : decode cL_law 558 = .ok (.iconst 2, 1) := by decide +kernel
theorem dL_law_559 : decode cL_law 559 = .ok (.invokevirtual 68, 3) := by decide +kernel
theorem dL_law_562 : decode cL_law 562 = .ok (.ifCond .lt 24, 3) := by decide +kernel
theorem dL_law_565 : decode cL_law 565 = .ok (.iload 13, 2) := by decide +kernel
theorem dL_law_567 : decode cL_law 567 = .ok (.iconst 4, 1) := by decide +kernel
theorem dL_law_568 : decode cL_law 568 = .ok (.if_icmp .ge 20, 3) := by decide +kernel
theorem dL_law_571 : decode cL_law 571 = .ok (.aload_n 3, 1) := by decide +kernel
theorem dL_law_572 : decode cL_law 572 = .ok (.iload 13, 2) := by decide +kernel
theorem dL_law_574 : decode cL_law 574 = .ok (.iload 9, 2) := by decide +kernel
theorem dL_law_576 : decode cL_law 576 = .ok (.iload 13, 2) := by decide +kernel
theorem dL_law_578 : decode cL_law 578 = .ok (.invokevirtual 81, 3) := by decide +kernel
theorem dL_law_581 : decode cL_law 581 = .ok (.iload 9, 2) := by decide +kernel
theorem dL_law_583 : decode cL_law 583 = .ok (.if_icmp .eq 5, 3) := by decide +kernel
theorem dL_law_586 : decode cL_law 586 = .ok (.iconst 0, 1) := by decide +kernel
theorem dL_law_587 : decode cL_law 587 = .ok (.ireturn, 1) := by decide +kernel
theorem dL_law_588 : decode cL_law 588 = .ok (.iinc 13 1, 3) := by decide +kernel
theorem dL_law_591 : decode cL_law 591 = .ok (.goto (-76), 3) := by decide +kernel
theorem dL_law_594 : decode cL_law 594 = .ok (.aload_n 3, 1) := by decide +kernel
theorem dL_law_595 : decode cL_law 595 = .ok (.invokevirtual 77, 3) := by decide +kernel
theorem dL_law_598 : decode cL_law 598 = .ok (.lload 10, 2) := by decide +kernel
theorem dL_law_600 : decode cL_law 600 = .ok (.lcmp, 1) := by decide +kernel
theorem dL_law_601 : decode cL_law 601 = .ok (.ifCond .eq 5, 3) := by decide +kernel
theorem dL_law_604 : decode cL_law 604 = .ok (.iconst 0, 1) := by decide +kernel
theorem dL_law_605 : decode cL_law 605 = .ok (.ireturn, 1) := by decide +kernel
theorem dL_law_606 : decode cL_law 606 = .ok (.aload_n 2, 1) := by decide +kernel
theorem dL_law_607 : decode cL_law 607 = .ok (.bipush 6, 2) := by decide +kernel
theorem dL_law_609 : decode cL_law 609 = .ok (.invokevirtual 65, 3) := by decide +kernel
theorem dL_law_612 : decode cL_law 612 = .ok (.istore 13, 2) := by decide +kernel
theorem dL_law_614 : decode cL_law 614 = .ok (.aload_n 3, 1) := by decide +kernel
theorem dL_law_615 : decode cL_law 615 = .ok (.iload 13, 2) := by decide +kernel
theorem dL_law_617 : decode cL_law 617 = .ok (.invokevirtual 85, 3) := by decide +kernel
theorem dL_law_620 : decode cL_law 620 = .ok (.istore 14, 2) := by decide +kernel
theorem dL_law_622 : decode cL_law 622 = .ok (.aload_n 3, 1) := by decide +kernel
theorem dL_law_623 : decode cL_law 623 = .ok (.iconst 0, 1) := by decide +kernel
theorem dL_law_624 : decode cL_law 624 = .ok (.invokevirtual 62, 3) := by decide +kernel
theorem dL_law_627 : decode cL_law 627 = .ok (.iload 12, 2) := by decide +kernel
theorem dL_law_629 : decode cL_law 629 = .ok (.iload 13, 2) := by decide +kernel
theorem dL_law_631 : decode cL_law 631 = .ok (.iadd, 1) := by decide +kernel
theorem dL_law_632 : decode cL_law 632 = .ok (.if_icmp .ne 37, 3) := by decide +kernel
theorem dL_law_635 : decode cL_law 635 = .ok (.aload_n 3, 1) := by decide +kernel
theorem dL_law_636 : decode cL_law 636 = .ok (.iconst 5, 1) := by decide +kernel
theorem dL_law_637 : decode cL_law 637 = .ok (.invokevirtual 62, 3) := by decide +kernel
theorem dL_law_640 : decode cL_law 640 = .ok (.iload 6, 2) := by decide +kernel
theorem dL_law_642 : decode cL_law 642 = .ok (.iload 14, 2) := by decide +kernel
theorem dL_law_644 : decode cL_law 644 = .ok (.iadd, 1) := by decide +kernel
theorem dL_law_645 : decode cL_law 645 = .ok (.if_icmp .ne 24, 3) := by decide +kernel
theorem dL_law_648 : decode cL_law 648 = .ok (.aload_n 3, 1) := by decide +kernel
theorem dL_law_649 : decode cL_law 649 = .ok (.iconst 2, 1) := by decide +kernel
theorem dL_law_650 : decode cL_law 650 = .ok (.invokevirtual 62, 3) := by decide +kernel
theorem dL_law_653 : decode cL_law 653 = .ok (.ifCond .lt 18, 3) := by decide +kernel
theorem dL_law_656 : decode cL_law 656 = .ok (.aload_n 3, 1) := by decide +kernel
theorem dL_law_657 : decode cL_law 657 = .ok (.iconst 2, 1) := by decide +kernel
theorem dL_law_658 : decode cL_law 658 = .ok (.invokevirtual 62, 3) := by decide +kernel
theorem dL_law_661 : decode cL_law 661 = .ok (.iload 12, 2) := by decide +kernel
theorem dL_law_663 : decode cL_law 663 = .ok (.iload 13, 2) := by decide +kernel
theorem dL_law_665 : decode cL_law 665 = .ok (.iadd, 1) := by decide +kernel
theorem dL_law_666 : decode cL_law 666 = .ok (.if_icmp .gt 5, 3) := by decide +kernel
theorem dL_law_669 : decode cL_law 669 = .ok (.iconst 0, 1) := by decide +kernel
theorem dL_law_670 : decode cL_law 670 = .ok (.ireturn, 1) := by decide +kernel
theorem dL_law_671 : decode cL_law 671 = .ok (.aload_n 3, 1) := by decide +kernel
theorem dL_law_672 : decode cL_law 672 = .ok (.iconst 4, 1) := by decide +kernel
theorem dL_law_673 : decode cL_law 673 = .ok (.invokevirtual 62, 3) := by decide +kernel
theorem dL_law_676 : decode cL_law 676 = .ok (.ifCond .le 6, 3) := by decide +kernel
theorem dL_law_679 : decode cL_law 679 = .ok (.goto 480, 3) := by decide +kernel
theorem dL_law_682 : decode cL_law 682 = .ok (.iload 5, 2) := by decide +kernel
theorem dL_law_684 : decode cL_law 684 = .ok (.iconst 2, 1) := by decide +kernel
theorem dL_law_685 : decode cL_law 685 = .ok (.irem, 1) := by decide +kernel
theorem dL_law_686 : decode cL_law 686 = .ok (.ifCond .ne 6, 3) := by decide +kernel
theorem dL_law_689 : decode cL_law 689 = .ok (.goto 464, 3) := by decide +kernel
theorem dL_law_692 : decode cL_law 692 = .ok (.aload_n 3, 1) := by decide +kernel
theorem dL_law_693 : decode cL_law 693 = .ok (.invokevirtual 88, 3) := by decide +kernel
theorem dL_law_696 : decode cL_law 696 = .ok (.istore 15, 2) := by decide +kernel
theorem dL_law_698 : decode cL_law 698 = .ok (.aload_n 3, 1) := by decide +kernel
theorem dL_law_699 : decode cL_law 699 = .ok (.invokevirtual 91, 3) := by decide +kernel
theorem dL_law_702 : decode cL_law 702 = .ok (.istore 16, 2) := by decide +kernel
theorem dL_law_704 : decode cL_law 704 = .ok (.iload 15, 2) := by decide +kernel
theorem dL_law_706 : decode cL_law 706 = .ok (.ifCond .ge 7, 3) := by decide +kernel
theorem dL_law_709 : decode cL_law 709 = .ok (.iconst 1, 1) := by decide +kernel
theorem dL_law_710 : decode cL_law 710 = .ok (.goto 4, 3) := by decide +kernel
theorem dL_law_713 : decode cL_law 713 = .ok (.iconst 0, 1) := by decide +kernel
theorem dL_law_714 : decode cL_law 714 = .ok (.aload_n 3, 1) := by decide +kernel
theorem dL_law_715 : decode cL_law 715 = .ok (.iconst 4, 1) := by decide +kernel
theorem dL_law_716 : decode cL_law 716 = .ok (.invokevirtual 62, 3) := by decide +kernel
theorem dL_law_719 : decode cL_law 719 = .ok (.ifCond .le 7, 3) := by decide +kernel
theorem dL_law_722 : decode cL_law 722 = .ok (.iconst 1, 1) := by decide +kernel
theorem dL_law_723 : decode cL_law 723 = .ok (.goto 4, 3) := by decide +kernel
theorem dL_law_726 : decode cL_law 726 = .ok (.iconst 0, 1) := by decide +kernel
theorem dL_law_727 : decode cL_law 727 = .ok (.if_icmp .eq 5, 3) := by decide +kernel
theorem dL_law_730 : decode cL_law 730 = .ok (.iconst 0, 1) := by decide +kernel
theorem dL_law_731 : decode cL_law 731 = .ok (.ireturn, 1) := by decide +kernel
theorem dL_law_732 : decode cL_law 732 = .ok (.iload 15, 2) := by decide +kernel
theorem dL_law_734 : decode cL_law 734 = .ok (.ifCond .ge 6, 3) := by decide +kernel
theorem dL_law_737 : decode cL_law 737 = .ok (.goto 422, 3) := by decide +kernel
theorem dL_law_740 : decode cL_law 740 = .ok (.aload_n 3, 1) := by decide +kernel
theorem dL_law_741 : decode cL_law 741 = .ok (.iconst 0, 1) := by decide +kernel
theorem dL_law_742 : decode cL_law 742 = .ok (.invokevirtual 62, 3) := by decide +kernel
theorem dL_law_745 : decode cL_law 745 = .ok (.iload 12, 2) := by decide +kernel
theorem dL_law_747 : decode cL_law 747 = .ok (.iload 13, 2) := by decide +kernel
theorem dL_law_749 : decode cL_law 749 = .ok (.iadd, 1) := by decide +kernel
theorem dL_law_750 : decode cL_law 750 = .ok (.iload 15, 2) := by decide +kernel
theorem dL_law_752 : decode cL_law 752 = .ok (.iadd, 1) := by decide +kernel
theorem dL_law_753 : decode cL_law 753 = .ok (.if_icmp .ne 49, 3) := by decide +kernel
theorem dL_law_756 : decode cL_law 756 = .ok (.aload_n 3, 1) := by decide +kernel
theorem dL_law_757 : decode cL_law 757 = .ok (.iconst 5, 1) := by decide +kernel
theorem dL_law_758 : decode cL_law 758 = .ok (.invokevirtual 62, 3) := by decide +kernel
theorem dL_law_761 : decode cL_law 761 = .ok (.iload 6, 2) := by decide +kernel
theorem dL_law_763 : decode cL_law 763 = .ok (.iload 14, 2) := by decide +kernel
theorem dL_law_765 : decode cL_law 765 = .ok (.iadd, 1) := by decide +kernel
theorem dL_law_766 : decode cL_law 766 = .ok (.iload 16, 2) := by decide +kernel
theorem dL_law_768 : decode cL_law 768 = .ok (.iadd, 1) := by decide +kernel
theorem dL_law_769 : decode cL_law 769 = .ok (.if_icmp .ne 33, 3) := by decide +kernel
theorem dL_law_772 : decode cL_law 772 = .ok (.aload_n 3, 1) := by decide +kernel
theorem dL_law_773 : decode cL_law 773 = .ok (.iconst 1, 1) := by decide +kernel
theorem dL_law_774 : decode cL_law 774 = .ok (.invokevirtual 62, 3) := by decide +kernel
theorem dL_law_777 : decode cL_law 777 = .ok (.ifCond .ne 25, 3) := by decide +kernel
theorem dL_law_780 : decode cL_law 780 = .ok (.aload_n 3, 1) := by decide +kernel
theorem dL_law_781 : decode cL_law 781 = .ok (.iconst 4, 1) := by decide +kernel
theorem dL_law_782 : decode cL_law 782 = .ok (.invokevirtual 62, 3) := by decide +kernel
theorem dL_law_785 : decode cL_law 785 = .ok (.ifCond .ne 17, 3) := by decide +kernel
theorem dL_law_788 : decode cL_law 788 = .ok (.aload_n 3, 1) := by decide +kernel
theorem dL_law_789 : decode cL_law 789 = .ok (.invokevirtual 88, 3) := by decide +kernel
theorem dL_law_792 : decode cL_law 792 = .ok (.ifCond .ne 10, 3) := by decide +kernel
theorem dL_law_795 : decode cL_law 795 = .ok (.aload_n 3, 1) := by decide +kernel
theorem dL_law_796 : decode cL_law 796 = .ok (.invokevirtual 91, 3) := by decide +kernel
theorem dL_law_799 : decode cL_law 799 = .ok (.ifCond .eq 5, 3) := by decide +kernel
theorem dL_law_802 : decode cL_law 802 = .ok (.iconst 0, 1) := by decide +kernel
theorem dL_law_803 : decode cL_law 803 = .ok (.ireturn, 1) := by decide +kernel
theorem dL_law_804 : decode cL_law 804 = .ok (.iconst 0, 1) := by decide +kernel
theorem dL_law_805 : decode cL_law 805 = .ok (.istore 17, 2) := by decide +kernel
theorem dL_law_807 : decode cL_law 807 = .ok (.iload 17, 2) := by decide +kernel
theorem dL_law_809 : decode cL_law 809 = .ok (.aload_n 2, 1) := by decide +kernel
theorem dL_law_810 : decode cL_law 810 = .ok (.getfield 94, 3) := by decide +kernel
theorem dL_law_813 : decode cL_law 813 = .ok (.if_icmp .ge 227, 3) := by decide +kernel
theorem dL_law_816 : decode cL_law 816 = .ok (.aload_n 2, 1) := by decide +kernel
theorem dL_law_817 : decode cL_law 817 = .ok (.getfield 38, 3) := by decide +kernel
theorem dL_law_820 : decode cL_law 820 = .ok (.iload 17, 2) := by decide +kernel
theorem dL_law_822 : decode cL_law 822 = .ok (.aaload, 1) := by decide +kernel
theorem dL_law_823 : decode cL_law 823 = .ok (.astore 18, 2) := by decide +kernel
theorem dL_law_825 : decode cL_law 825 = .ok (.aload 18, 2) := by decide +kernel
theorem dL_law_827 : decode cL_law 827 = .ok (.iconst 2, 1) := by decide +kernel
theorem dL_law_828 : decode cL_law 828 = .ok (.iaload, 1) := by decide +kernel
theorem dL_law_829 : decode cL_law 829 = .ok (.ifCond .ge 7, 3) := by decide +kernel
theorem dL_law_832 : decode cL_law 832 = .ok (.iconst 2, 1) := by decide +kernel
theorem dL_law_833 : decode cL_law 833 = .ok (.goto 12, 3) := by decide +kernel
theorem dL_law_836 : decode cL_law 836 = .ok (.aload_n 3, 1) := by decide +kernel
theorem dL_law_837 : decode cL_law 837 = .ok (.aload 18, 2) := by decide +kernel
theorem dL_law_839 : decode cL_law 839 = .ok (.iconst 2, 1) := by decide +kernel
theorem dL_law_840 : decode cL_law 840 = .ok (.iaload, 1) := by decide +kernel
theorem dL_law_841 : decode cL_law 841 = .ok (.iconst 0, 1) := by decide +kernel
theorem dL_law_842 : decode cL_law 842 = .ok (.invokevirtual 68, 3) := by decide +kernel
theorem dL_law_845 : decode cL_law 845 = .ok (.istore 19, 2) := by decide +kernel
theorem dL_law_847 : decode cL_law 847 = .ok (.aload 18, 2) := by decide +kernel
theorem dL_law_849 : decode cL_law 849 = .ok (.iconst 3, 1) := by decide +kernel
theorem dL_law_850 : decode cL_law 850 = .ok (.iaload, 1) := by decide +kernel
theorem dL_law_851 : decode cL_law 851 = .ok (.ifCond .ge 7, 3) := by decide +kernel
theorem dL_law_854 : decode cL_law 854 = .ok (.iconst 2, 1) := by decide +kernel
theorem dL_law_855 : decode cL_law 855 = .ok (.goto 12, 3) := by decide +kernel
theorem dL_law_858 : decode cL_law 858 = .ok (.aload_n 3, 1) := by decide +kernel
theorem dL_law_859 : decode cL_law 859 = .ok (.aload 18, 2) := by decide +kernel
theorem dL_law_861 : decode cL_law 861 = .ok (.iconst 3, 1) := by decide +kernel
theorem dL_law_862 : decode cL_law 862 = .ok (.iaload, 1) := by decide +kernel
theorem dL_law_863 : decode cL_law 863 = .ok (.iconst 0, 1) := by decide +kernel
theorem dL_law_864 : decode cL_law 864 = .ok (.invokevirtual 68, 3) := by decide +kernel
theorem dL_law_867 : decode cL_law 867 = .ok (.istore 20, 2) := by decide +kernel
theorem dL_law_869 : decode cL_law 869 = .ok (.aload_n 3, 1) := by decide +kernel
theorem dL_law_870 : decode cL_law 870 = .ok (.aload 18, 2) := by decide +kernel
theorem dL_law_872 : decode cL_law 872 = .ok (.iconst 1, 1) := by decide +kernel
theorem dL_law_873 : decode cL_law 873 = .ok (.iaload, 1) := by decide +kernel
theorem dL_law_874 : decode cL_law 874 = .ok (.iconst 0, 1) := by decide +kernel
theorem dL_law_875 : decode cL_law 875 = .ok (.invokevirtual 68, 3) := by decide +kernel
theorem dL_law_878 : decode cL_law 878 = .ok (.istore 21, 2) := by decide +kernel
theorem dL_law_880 : decode cL_law 880 = .ok (.aload 18, 2) := by decide +kernel
theorem dL_law_882 : decode cL_law 882 = .ok (.iconst 0, 1) := by decide +kernel
theorem dL_law_883 : decode cL_law 883 = .ok (.iaload, 1) := by decide +kernel
theorem dL_law_884 : decode cL_law 884 = .ok (.ifCond .ne 22, 3) := by decide +kernel
theorem dL_law_887 : decode cL_law 887 = .ok (.iload 21, 2) := by decide +kernel
theorem dL_law_889 : decode cL_law 889 = .ok (.iload 19, 2) := by decide +kernel
theorem dL_law_891 : decode cL_law 891 = .ok (.iconst 2, 1) := by decide +kernel
theorem dL_law_892 : decode cL_law 892 = .ok (.if_icmp .ne 7, 3) := by decide +kernel
theorem dL_law_895 : decode cL_law 895 = .ok (.iconst 2, 1) := by decide +kernel
theorem dL_law_896 : decode cL_law 896 = .ok (.goto 7, 3) := by decide +kernel
theorem dL_law_899 : decode cL_law 899 = .ok (.iconst 1, 1) := by decide +kernel
theorem dL_law_900 : decode cL_law 900 = .ok (.iload 19, 2) := by decide +kernel
theorem dL_law_902 : decode cL_law 902 = .ok (.isub, 1) := by decide +kernel
theorem dL_law_903 : decode cL_law 903 = .ok (.if_icmp .ne 129, 3) := by decide +kernel
theorem dL_law_906 : decode cL_law 906 = .ok (.aload 18, 2) := by decide +kernel
theorem dL_law_908 : decode cL_law 908 = .ok (.iconst 0, 1) := by decide +kernel
theorem dL_law_909 : decode cL_law 909 = .ok (.iaload, 1) := by decide +kernel
theorem dL_law_910 : decode cL_law 910 = .ok (.iconst 1, 1) := by decide +kernel
theorem dL_law_911 : decode cL_law 911 = .ok (.if_icmp .ne 10, 3) := by decide +kernel
theorem dL_law_914 : decode cL_law 914 = .ok (.iload 21, 2) := by decide +kernel
theorem dL_law_916 : decode cL_law 916 = .ok (.iload 19, 2) := by decide +kernel
theorem dL_law_918 : decode cL_law 918 = .ok (.if_icmp .ne 114, 3) := by decide +kernel
theorem dL_law_921 : decode cL_law 921 = .ok (.aload 18, 2) := by decide +kernel
theorem dL_law_923 : decode cL_law 923 = .ok (.iconst 0, 1) := by decide +kernel
theorem dL_law_924 : decode cL_law 924 = .ok (.iaload, 1) := by decide +kernel
theorem dL_law_925 : decode cL_law 925 = .ok (.iconst 2, 1) := by decide +kernel
theorem dL_law_926 : decode cL_law 926 = .ok (.if_icmp .ne 34, 3) := by decide +kernel
theorem dL_law_929 : decode cL_law 929 = .ok (.iload 21, 2) := by decide +kernel
theorem dL_law_931 : decode cL_law 931 = .ok (.iload 19, 2) := by decide +kernel
theorem dL_law_933 : decode cL_law 933 = .ok (.iload 20, 2) := by decide +kernel
theorem dL_law_935 : decode cL_law 935 = .ok (.imul, 1) := by decide +kernel
theorem dL_law_936 : decode cL_law 936 = .ok (.ifCond .ne 7, 3) := by decide +kernel
theorem dL_law_939 : decode cL_law 939 = .ok (.iconst 0, 1) := by decide +kernel
theorem dL_law_940 : decode cL_law 940 = .ok (.goto 17, 3) := by decide +kernel
theorem dL_law_943 : decode cL_law 943 = .ok (.iload 19, 2) := by decide +kernel
theorem dL_law_945 : decode cL_law 945 = .ok (.iload 20, 2) := by decide +kernel
theorem dL_law_947 : decode cL_law 947 = .ok (.imul, 1) := by decide +kernel
theorem dL_law_948 : decode cL_law 948 = .ok (.iconst 1, 1) := by decide +kernel
theorem dL_law_949 : decode cL_law 949 = .ok (.if_icmp .ne 7, 3) := by decide +kernel
theorem dL_law_952 : decode cL_law 952 = .ok (.iconst 1, 1) := by decide +kernel
theorem dL_law_953 : decode cL_law 953 = .ok (.goto 4, 3) := by decide +kernel
theorem dL_law_956 : decode cL_law 956 = .ok (.iconst 2, 1) := by decide +kernel
theorem dL_law_957 : decode cL_law 957 = .ok (.if_icmp .ne 75, 3) := by decide +kernel
theorem dL_law_960 : decode cL_law 960 = .ok (.aload 18, 2) := by decide +kernel
theorem dL_law_962 : decode cL_law 962 = .ok (.iconst 0, 1) := by decide +kernel
theorem dL_law_963 : decode cL_law 963 = .ok (.iaload, 1) := by decide +kernel
theorem dL_law_964 : decode cL_law 964 = .ok (.iconst 4, 1) := by decide +kernel
theorem dL_law_965 : decode cL_law 965 = .ok (.if_icmp .ne 31, 3) := by decide +kernel
theorem dL_law_968 : decode cL_law 968 = .ok (.iload 21, 2) := by decide +kernel
theorem dL_law_970 : decode cL_law 970 = .ok (.iload 19, 2) := by decide +kernel
theorem dL_law_972 : decode cL_law 972 = .ok (.iconst 2, 1) := by decide +kernel
theorem dL_law_973 : decode cL_law 973 = .ok (.if_icmp .eq 9, 3) := by decide +kernel
theorem dL_law_976 : decode cL_law 976 = .ok (.iload 20, 2) := by decide +kernel
theorem dL_law_978 : decode cL_law 978 = .ok (.iconst 2, 1) := by decide +kernel
theorem dL_law_979 : decode cL_law 979 = .ok (.if_icmp .ne 7, 3) := by decide +kernel
theorem dL_law_982 : decode cL_law 982 = .ok (.iconst 2, 1) := by decide +kernel
theorem dL_law_983 : decode cL_law 983 = .ok (.goto 10, 3) := by decide +kernel
theorem dL_law_986 : decode cL_law 986 = .ok (.iload 19, 2) := by decide +kernel
theorem dL_law_988 : decode cL_law 988 = .ok (.iload 20, 2) := by decide +kernel
theorem dL_law_990 : decode cL_law 990 = .ok (.iadd, 1) := by decide +kernel
theorem dL_law_991 : decode cL_law 991 = .ok (.iconst 2, 1) := by decide +kernel
theorem dL_law_992 : decode cL_law 992 = .ok (.irem, 1) := by decide +kernel
theorem dL_law_993 : decode cL_law 993 = .ok (.if_icmp .ne 39, 3) := by decide +kernel
theorem dL_law_996 : decode cL_law 996 = .ok (.aload 18, 2) := by decide +kernel
theorem dL_law_998 : decode cL_law 998 = .ok (.iconst 0, 1) := by decide +kernel
theorem dL_law_999 : decode cL_law 999 = .ok (.iaload, 1) := by decide +kernel
theorem dL_law_1000 : decode cL_law 1000 = .ok (.iconst 3, 1) := by decide +kernel
theorem dL_law_1001 : decode cL_law 1001 = .ok (.if_icmp .ne 33, 3) := by decide +kernel
theorem dL_law_1004 : decode cL_law 1004 = .ok (.iload 21, 2) := by decide +kernel
theorem dL_law_1006 : decode cL_law 1006 = .ok (.iload 19, 2) := by decide +kernel
theorem dL_law_1008 : decode cL_law 1008 = .ok (.iconst 1, 1) := by decide +kernel
theorem dL_law_1009 : decode cL_law 1009 = .ok (.if_icmp .eq 9, 3) := by decide +kernel
theorem dL_law_1012 : decode cL_law 1012 = .ok (.iload 20, 2) := by decide +kernel
theorem dL_law_1014 : decode cL_law 1014 = .ok (.iconst 1, 1) := by decide +kernel
theorem dL_law_1015 : decode cL_law 1015 = .ok (.if_icmp .ne 7, 3) := by decide +kernel
theorem dL_law_1018 : decode cL_law 1018 = .ok (.iconst 1, 1) := by decide +kernel
theorem dL_law_1019 : decode cL_law 1019 = .ok (.goto 10, 3) := by decide +kernel
theorem dL_law_1022 : decode cL_law 1022 = .ok (.iload 19, 2) := by decide +kernel
theorem dL_law_1024 : decode cL_law 1024 = .ok (.iload 20, 2) := by decide +kernel
theorem dL_law_1026 : decode cL_law 1026 = .ok (.invokestatic 42, 3) := by decide +kernel
theorem dL_law_1029 : decode cL_law 1029 = .ok (.if_icmp .eq 5, 3) := by decide +kernel
theorem dL_law_1032 : decode cL_law 1032 = .ok (.iconst 0, 1) := by decide +kernel
theorem dL_law_1033 : decode cL_law 1033 = .ok (.ireturn, 1) := by decide +kernel
theorem dL_law_1034 : decode cL_law 1034 = .ok (.iinc 17 1, 3) := by decide +kernel
theorem dL_law_1037 : decode cL_law 1037 = .ok (.goto (-230), 3) := by decide +kernel
theorem dL_law_1040 : decode cL_law 1040 = .ok (.iconst 0, 1) := by decide +kernel
theorem dL_law_1041 : decode cL_law 1041 = .ok (.istore 17, 2) := by decide +kernel
theorem dL_law_1043 : decode cL_law 1043 = .ok (.iload 17, 2) := by decide +kernel
theorem dL_law_1045 : decode cL_law 1045 = .ok (.aload_n 3, 1) := by decide +kernel
theorem dL_law_1046 : decode cL_law 1046 = .ok (.invokevirtual 98, 3) := by decide +kernel
theorem dL_law_1049 : decode cL_law 1049 = .ok (.if_icmp .ge 104, 3) := by decide +kernel
theorem dL_law_1052 : decode cL_law 1052 = .ok (.aload_n 3, 1) := by decide +kernel
theorem dL_law_1053 : decode cL_law 1053 = .ok (.iload 17, 2) := by decide +kernel
theorem dL_law_1055 : decode cL_law 1055 = .ok (.iconst 0, 1) := by decide +kernel
theorem dL_law_1056 : decode cL_law 1056 = .ok (.invokevirtual 101, 3) := by decide +kernel
theorem dL_law_1059 : decode cL_law 1059 = .ok (.istore 18, 2) := by decide +kernel
theorem dL_law_1061 : decode cL_law 1061 = .ok (.aload_n 2, 1) := by decide +kernel
theorem dL_law_1062 : decode cL_law 1062 = .ok (.aload_n 3, 1) := by decide +kernel
theorem dL_law_1063 : decode cL_law 1063 = .ok (.iload 17, 2) := by decide +kernel
theorem dL_law_1065 : decode cL_law 1065 = .ok (.iconst 1, 1) := by decide +kernel
theorem dL_law_1066 : decode cL_law 1066 = .ok (.invokevirtual 101, 3) := by decide +kernel
theorem dL_law_1069 : decode cL_law 1069 = .ok (.invokevirtual 26, 3) := by decide +kernel
theorem dL_law_1072 : decode cL_law 1072 = .ok (.istore 19, 2) := by decide +kernel
theorem dL_law_1074 : decode cL_law 1074 = .ok (.iload 18, 2) := by decide +kernel
theorem dL_law_1076 : decode cL_law 1076 = .ok (.iconst 1, 1) := by decide +kernel
theorem dL_law_1077 : decode cL_law 1077 = .ok (.if_icmp .lt 68, 3) := by decide +kernel
theorem dL_law_1080 : decode cL_law 1080 = .ok (.iload 18, 2) := by decide +kernel
theorem dL_law_1082 : decode cL_law 1082 = .ok (.iconst 4, 1) := by decide +kernel
theorem dL_law_1083 : decode cL_law 1083 = .ok (.if_icmp .gt 62, 3) := by decide +kernel
theorem dL_law_1086 : decode cL_law 1086 = .ok (.aload_n 2, 1) := by decide +kernel
theorem dL_law_1087 : decode cL_law 1087 = .ok (.iload 19, 2) := by decide +kernel
theorem dL_law_1089 : decode cL_law 1089 = .ok (.invokevirtual 30, 3) := by decide +kernel
theorem dL_law_1092 : decode cL_law 1092 = .ok (.iload 18, 2) := by decide +kernel
theorem dL_law_1094 : decode cL_law 1094 = .ok (.iconst 3, 1) := by decide +kernel
theorem dL_law_1095 : decode cL_law 1095 = .ok (.if_icmp .ge 7, 3) := by decide +kernel
theorem dL_law_1098 : decode cL_law 1098 = .ok (.iconst 1, 1) := by decide +kernel
theorem dL_law_1099 : decode cL_law 1099 = .ok (.goto 4, 3) := by decide +kernel
theorem dL_law_1102 : decode cL_law 1102 = .ok (.iconst 0, 1) := by decide +kernel
theorem dL_law_1103 : decode cL_law 1103 = .ok (.if_icmp .ne 42, 3) := by decide +kernel
theorem dL_law_1106 : decode cL_law 1106 = .ok (.aload_n 3, 1) := by decide +kernel
theorem dL_law_1107 : decode cL_law 1107 = .ok (.iload 17, 2) := by decide +kernel
theorem dL_law_1109 : decode cL_law 1109 = .ok (.iconst 2, 1) := by decide +kernel
theorem dL_law_1110 : decode cL_law 1110 = .ok (.invokevirtual 101, 3) := by decide +kernel
theorem dL_law_1113 : decode cL_law 1113 = .ok (.aload_n 3, 1) := by decide +kernel
theorem dL_law_1114 : decode cL_law 1114 = .ok (.iconst 0, 1) := by decide +kernel
theorem dL_law_1115 : decode cL_law 1115 = .ok (.invokevirtual 62, 3) := by decide +kernel
theorem dL_law_1118 : decode cL_law 1118 = .ok (.if_icmp .gt 27, 3) := by decide +kernel
theorem dL_law_1121 : decode cL_law 1121 = .ok (.iload 17, 2) := by decide +kernel
theorem dL_law_1123 : decode cL_law 1123 = .ok (.ifCond .le 24, 3) := by decide +kernel
theorem dL_law_1126 : decode cL_law 1126 = .ok (.aload_n 3, 1) := by decide +kernel
theorem dL_law_1127 : decode cL_law 1127 = .ok (.iload 17, 2) := by decide +kernel
theorem dL_law_1129 : decode cL_law 1129 = .ok (.iconst 2, 1) := by decide +kernel
theorem dL_law_1130 : decode cL_law 1130 = .ok (.invokevirtual 101, 3) := by decide +kernel
theorem dL_law_1133 : decode cL_law 1133 = .ok (.aload_n 3, 1) := by decide +kernel
theorem dL_law_1134 : decode cL_law 1134 = .ok (.iload 17, 2) := by decide +kernel
theorem dL_law_1136 : decode cL_law 1136 = .ok (.iconst 1, 1) := by decide +kernel
theorem dL_law_1137 : decode cL_law 1137 = .ok (.isub, 1) := by decide +kernel
theorem dL_law_1138 : decode cL_law 1138 = .ok (.iconst 2, 1) := by decide +kernel
theorem dL_law_1139 : decode cL_law 1139 = .ok (.invokevirtual 101, 3) := by decide +kernel
theorem dL_law_1142 : decode cL_law 1142 = .ok (.if_icmp .ge 5, 3) := by decide +kernel
theorem dL_law_1145 : decode cL_law 1145 = .ok (.iconst 0, 1) := by decide +kernel
theorem dL_law_1146 : decode cL_law 1146 = .ok (.ireturn, 1) := by decide +kernel
theorem dL_law_1147 : decode cL_law 1147 = .ok (.iinc 17 1, 3) := by decide +kernel
theorem dL_law_1150 : decode cL_law 1150 = .ok (.goto (-107), 3) := by decide +kernel
theorem dL_law_1153 : decode cL_law 1153 = .ok (.iinc 5 1, 3) := by decide +kernel
theorem dL_law_1156 : decode cL_law 1156 = .ok (.goto (-817), 3) := by decide +kernel
theorem dL_law_1159 : decode cL_law 1159 = .ok (.iinc 1 1, 3) := by decide +kernel
theorem dL_law_1162 : decode cL_law 1162 = .ok (.goto (-1160), 3) := by decide +kernel
theorem dL_law_1165 : decode cL_law 1165 = .ok (.iconst 1, 1) := by decide +kernel
theorem dL_law_1166 : decode cL_law 1166 = .ok (.ireturn, 1) := by decide +kernel
