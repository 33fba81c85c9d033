theorem dX0_init_0 : decode cX0_init 0 = .ok (.aload_n 0, 1) := by decide +kernel
theorem dX0_init_1 : decode cX0_init 1 = .ok (.invokespecial 3, 3) := by decide +kernel
theorem dX0_init_4 : decode cX0_init 4 = .ok (.aload_n 0, 1) := by decide +kernel
theorem dX0_init_5 : decode cX0_init 5 = .ok (.bipush 24, 2) := by decide +kernel
theorem dX0_init_7 : decode cX0_init 7 = .ok (.newarray .int, 2) := by decide +kernel
theorem dX0_init_9 : decode cX0_init 9 = .ok (.putfield 9, 3) := by decide +kernel
theorem dX0_init_12 : decode cX0_init 12 = .ok (.return_, 1) := by decide +kernel
theorem dX0_reckon_0 : decode cX0_reckon 0 = .ok (.aload_n 0, 1) := by decide +kernel
theorem dX0_reckon_1 : decode cX0_reckon 1 = .ok (.getfield 9, 3) := by decide +kernel
theorem dX0_reckon_4 : decode cX0_reckon 4 = .ok (.bipush (-2), 2) := by decide +kernel
theorem dX0_reckon_6 : decode cX0_reckon 6 = .ok (.invokestatic 15, 3) := by decide +kernel
theorem dX0_reckon_9 : decode cX0_reckon 9 = .ok (.iconst 1, 1) := by decide +kernel
theorem dX0_reckon_10 : decode cX0_reckon 10 = .ok (.istore 5, 2) := by decide +kernel
theorem dX0_reckon_12 : decode cX0_reckon 12 = .ok (.iconst 0, 1) := by decide +kernel
theorem dX0_reckon_13 : decode cX0_reckon 13 = .ok (.istore 6, 2) := by decide +kernel
theorem dX0_reckon_15 : decode cX0_reckon 15 = .ok (.iload 5, 2) := by decide +kernel
theorem dX0_reckon_17 : decode cX0_reckon 17 = .ok (.ifCond .eq 105, 3) := by decide +kernel
theorem dX0_reckon_20 : decode cX0_reckon 20 = .ok (.iload 6, 2) := by decide +kernel
theorem dX0_reckon_22 : decode cX0_reckon 22 = .ok (.bipush 24, 2) := by decide +kernel
theorem dX0_reckon_24 : decode cX0_reckon 24 = .ok (.if_icmp .ge 98, 3) := by decide +kernel
theorem dX0_reckon_27 : decode cX0_reckon 27 = .ok (.iconst 0, 1) := by decide +kernel
theorem dX0_reckon_28 : decode cX0_reckon 28 = .ok (.istore 5, 2) := by decide +kernel
theorem dX0_reckon_30 : decode cX0_reckon 30 = .ok (.iconst 0, 1) := by decide +kernel
theorem dX0_reckon_31 : decode cX0_reckon 31 = .ok (.istore 7, 2) := by decide +kernel
theorem dX0_reckon_33 : decode cX0_reckon 33 = .ok (.iload 7, 2) := by decide +kernel
theorem dX0_reckon_35 : decode cX0_reckon 35 = .ok (.bipush 24, 2) := by decide +kernel
theorem dX0_reckon_37 : decode cX0_reckon 37 = .ok (.if_icmp .ge 79, 3) := by decide +kernel
theorem dX0_reckon_40 : decode cX0_reckon 40 = .ok (.aload_n 0, 1) := by decide +kernel
theorem dX0_reckon_41 : decode cX0_reckon 41 = .ok (.getfield 9, 3) := by decide +kernel
theorem dX0_reckon_44 : decode cX0_reckon 44 = .ok (.iload 7, 2) := by decide +kernel
theorem dX0_reckon_46 : decode cX0_reckon 46 = .ok (.iaload, 1) := by decide +kernel
theorem dX0_reckon_47 : decode cX0_reckon 47 = .ok (.bipush (-2), 2) := by decide +kernel
theorem dX0_reckon_49 : decode cX0_reckon 49 = .ok (.if_icmp .ne 61, 3) := by decide +kernel
theorem dX0_reckon_52 : decode cX0_reckon 52 = .ok (.aload_n 1, 1) := by decide +kernel
theorem dX0_reckon_53 : decode cX0_reckon 53 = .ok (.iload 7, 2) := by decide +kernel
theorem dX0_reckon_55 : decode cX0_reckon 55 = .ok (.invokevirtual 21, 3) := by decide +kernel
theorem dX0_reckon_58 : decode cX0_reckon 58 = .ok (.istore 8, 2) := by decide +kernel
theorem dX0_reckon_60 : decode cX0_reckon 60 = .ok (.iload 8, 2) := by decide +kernel
theorem dX0_reckon_62 : decode cX0_reckon 62 = .ok (.iconst (-1), 1) := by decide +kernel
theorem dX0_reckon_63 : decode cX0_reckon 63 = .ok (.if_icmp .ne 7, 3) := by decide +kernel
theorem dX0_reckon_66 : decode cX0_reckon 66 = .ok (.iconst 0, 1) := by decide +kernel
theorem dX0_reckon_67 : decode cX0_reckon 67 = .ok (.goto 21, 3) := by decide +kernel
theorem dX0_reckon_70 : decode cX0_reckon 70 = .ok (.iload 8, 2) := by decide +kernel
theorem dX0_reckon_72 : decode cX0_reckon 72 = .ok (.iload_n 3, 1) := by decide +kernel
theorem dX0_reckon_73 : decode cX0_reckon 73 = .ok (.if_icmp .ne 8, 3) := by decide +kernel
theorem dX0_reckon_76 : decode cX0_reckon 76 = .ok (.iload 4, 2) := by decide +kernel
theorem dX0_reckon_78 : decode cX0_reckon 78 = .ok (.goto 10, 3) := by decide +kernel
theorem dX0_reckon_81 : decode cX0_reckon 81 = .ok (.aload_n 1, 1) := by decide +kernel
theorem dX0_reckon_82 : decode cX0_reckon 82 = .ok (.getfield 27, 3) := by decide +kernel
theorem dX0_reckon_85 : decode cX0_reckon 85 = .ok (.iload 8, 2) := by decide +kernel
theorem dX0_reckon_87 : decode cX0_reckon 87 = .ok (.iaload, 1) := by decide +kernel
theorem dX0_reckon_88 : decode cX0_reckon 88 = .ok (.istore 9, 2) := by decide +kernel
theorem dX0_reckon_90 : decode cX0_reckon 90 = .ok (.aload_n 0, 1) := by decide +kernel
theorem dX0_reckon_91 : decode cX0_reckon 91 = .ok (.getfield 9, 3) := by decide +kernel
theorem dX0_reckon_94 : decode cX0_reckon 94 = .ok (.iload 7, 2) := by decide +kernel
theorem dX0_reckon_96 : decode cX0_reckon 96 = .ok (.aload_n 0, 1) := by decide +kernel
theorem dX0_reckon_97 : decode cX0_reckon 97 = .ok (.aload_n 1, 1) := by decide +kernel
theorem dX0_reckon_98 : decode cX0_reckon 98 = .ok (.aload_n 2, 1) := by decide +kernel
theorem dX0_reckon_99 : decode cX0_reckon 99 = .ok (.iload 8, 2) := by decide +kernel
theorem dX0_reckon_101 : decode cX0_reckon 101 = .ok (.iload 9, 2) := by decide +kernel
theorem dX0_reckon_103 : decode cX0_reckon 103 = .ok (.invokevirtual 30, 3) := by decide +kernel
theorem dX0_reckon_106 : decode cX0_reckon 106 = .ok (.iastore, 1) := by decide +kernel
theorem dX0_reckon_107 : decode cX0_reckon 107 = .ok (.iconst 1, 1) := by decide +kernel
theorem dX0_reckon_108 : decode cX0_reckon 108 = .ok (.istore 5, 2) := by decide +kernel
theorem dX0_reckon_110 : decode cX0_reckon 110 = .ok (.iinc 7 1, 3) := by decide +kernel
theorem dX0_reckon_113 : decode cX0_reckon 113 = .ok (.goto (-80), 3) := by decide +kernel
theorem dX0_reckon_116 : decode cX0_reckon 116 = .ok (.iinc 6 1, 3) := by decide +kernel
theorem dX0_reckon_119 : decode cX0_reckon 119 = .ok (.goto (-104), 3) := by decide +kernel
theorem dX0_reckon_122 : decode cX0_reckon 122 = .ok (.return_, 1) := by decide +kernel
theorem dX0_arrivalBy_0 : decode cX0_arrivalBy 0 = .ok (.iload_n 3, 1) := by decide +kernel
theorem dX0_arrivalBy_1 : decode cX0_arrivalBy 1 = .ok (.iconst (-1), 1) := by decide +kernel
theorem dX0_arrivalBy_2 : decode cX0_arrivalBy 2 = .ok (.if_icmp .eq 14, 3) := by decide +kernel
theorem dX0_arrivalBy_5 : decode cX0_arrivalBy 5 = .ok (.aload_n 1, 1) := by decide +kernel
theorem dX0_arrivalBy_6 : decode cX0_arrivalBy 6 = .ok (.getfield 34, 3) := by decide +kernel
theorem dX0_arrivalBy_9 : decode cX0_arrivalBy 9 = .ok (.iload_n 3, 1) := by decide +kernel
theorem dX0_arrivalBy_10 : decode cX0_arrivalBy 10 = .ok (.iaload, 1) := by decide +kernel
theorem dX0_arrivalBy_11 : decode cX0_arrivalBy 11 = .ok (.bipush 8, 2) := by decide +kernel
theorem dX0_arrivalBy_13 : decode cX0_arrivalBy 13 = .ok (.if_icmp .ne 5, 3) := by decide +kernel
theorem dX0_arrivalBy_16 : decode cX0_arrivalBy 16 = .ok (.iconst 0, 1) := by decide +kernel
theorem dX0_arrivalBy_17 : decode cX0_arrivalBy 17 = .ok (.ireturn, 1) := by decide +kernel
theorem dX0_arrivalBy_18 : decode cX0_arrivalBy 18 = .ok (.aload_n 1, 1) := by decide +kernel
theorem dX0_arrivalBy_19 : decode cX0_arrivalBy 19 = .ok (.getfield 34, 3) := by decide +kernel
theorem dX0_arrivalBy_22 : decode cX0_arrivalBy 22 = .ok (.iload_n 3, 1) := by decide +kernel
theorem dX0_arrivalBy_23 : decode cX0_arrivalBy 23 = .ok (.iaload, 1) := by decide +kernel
theorem dX0_arrivalBy_24 : decode cX0_arrivalBy 24 = .ok (.bipush 9, 2) := by decide +kernel
theorem dX0_arrivalBy_26 : decode cX0_arrivalBy 26 = .ok (.if_icmp .ne 6, 3) := by decide +kernel
theorem dX0_arrivalBy_29 : decode cX0_arrivalBy 29 = .ok (.iload 4, 2) := by decide +kernel
theorem dX0_arrivalBy_31 : decode cX0_arrivalBy 31 = .ok (.ireturn, 1) := by decide +kernel
theorem dX0_arrivalBy_32 : decode cX0_arrivalBy 32 = .ok (.aload_n 2, 1) := by decide +kernel
theorem dX0_arrivalBy_33 : decode cX0_arrivalBy 33 = .ok (.getfield 37, 3) := by decide +kernel
theorem dX0_arrivalBy_36 : decode cX0_arrivalBy 36 = .ok (.iload_n 3, 1) := by decide +kernel
theorem dX0_arrivalBy_37 : decode cX0_arrivalBy 37 = .ok (.baload, 1) := by decide +kernel
theorem dX0_arrivalBy_38 : decode cX0_arrivalBy 38 = .ok (.ifCond .eq 5, 3) := by decide +kernel
theorem dX0_arrivalBy_41 : decode cX0_arrivalBy 41 = .ok (.iconst (-1), 1) := by decide +kernel
theorem dX0_arrivalBy_42 : decode cX0_arrivalBy 42 = .ok (.ireturn, 1) := by decide +kernel
theorem dX0_arrivalBy_43 : decode cX0_arrivalBy 43 = .ok (.aload_n 0, 1) := by decide +kernel
theorem dX0_arrivalBy_44 : decode cX0_arrivalBy 44 = .ok (.aload_n 1, 1) := by decide +kernel
theorem dX0_arrivalBy_45 : decode cX0_arrivalBy 45 = .ok (.getfield 43, 3) := by decide +kernel
theorem dX0_arrivalBy_48 : decode cX0_arrivalBy 48 = .ok (.iload_n 3, 1) := by decide +kernel
theorem dX0_arrivalBy_49 : decode cX0_arrivalBy 49 = .ok (.iaload, 1) := by decide +kernel
theorem dX0_arrivalBy_50 : decode cX0_arrivalBy 50 = .ok (.invokevirtual 46, 3) := by decide +kernel
theorem dX0_arrivalBy_53 : decode cX0_arrivalBy 53 = .ok (.istore 5, 2) := by decide +kernel
theorem dX0_arrivalBy_55 : decode cX0_arrivalBy 55 = .ok (.aload_n 0, 1) := by decide +kernel
theorem dX0_arrivalBy_56 : decode cX0_arrivalBy 56 = .ok (.aload_n 1, 1) := by decide +kernel
theorem dX0_arrivalBy_57 : decode cX0_arrivalBy 57 = .ok (.getfield 49, 3) := by decide +kernel
theorem dX0_arrivalBy_60 : decode cX0_arrivalBy 60 = .ok (.iload_n 3, 1) := by decide +kernel
theorem dX0_arrivalBy_61 : decode cX0_arrivalBy 61 = .ok (.iaload, 1) := by decide +kernel
theorem dX0_arrivalBy_62 : decode cX0_arrivalBy 62 = .ok (.invokevirtual 46, 3) := by decide +kernel
theorem dX0_arrivalBy_65 : decode cX0_arrivalBy 65 = .ok (.istore 6, 2) := by decide +kernel
theorem dX0_arrivalBy_67 : decode cX0_arrivalBy 67 = .ok (.aload_n 0, 1) := by decide +kernel
theorem dX0_arrivalBy_68 : decode cX0_arrivalBy 68 = .ok (.aload_n 1, 1) := by decide +kernel
theorem dX0_arrivalBy_69 : decode cX0_arrivalBy 69 = .ok (.getfield 52, 3) := by decide +kernel
theorem dX0_arrivalBy_72 : decode cX0_arrivalBy 72 = .ok (.iload_n 3, 1) := by decide +kernel
theorem dX0_arrivalBy_73 : decode cX0_arrivalBy 73 = .ok (.iaload, 1) := by decide +kernel
theorem dX0_arrivalBy_74 : decode cX0_arrivalBy 74 = .ok (.invokevirtual 46, 3) := by decide +kernel
theorem dX0_arrivalBy_77 : decode cX0_arrivalBy 77 = .ok (.istore 7, 2) := by decide +kernel
theorem dX0_arrivalBy_79 : decode cX0_arrivalBy 79 = .ok (.iload 5, 2) := by decide +kernel
theorem dX0_arrivalBy_81 : decode cX0_arrivalBy 81 = .ok (.bipush (-2), 2) := by decide +kernel
theorem dX0_arrivalBy_83 : decode cX0_arrivalBy 83 = .ok (.if_icmp .eq 17, 3) := by decide +kernel
theorem dX0_arrivalBy_86 : decode cX0_arrivalBy 86 = .ok (.iload 6, 2) := by decide +kernel
theorem dX0_arrivalBy_88 : decode cX0_arrivalBy 88 = .ok (.bipush (-2), 2) := by decide +kernel
theorem dX0_arrivalBy_90 : decode cX0_arrivalBy 90 = .ok (.if_icmp .eq 10, 3) := by decide +kernel
theorem dX0_arrivalBy_93 : decode cX0_arrivalBy 93 = .ok (.iload 7, 2) := by decide +kernel
theorem dX0_arrivalBy_95 : decode cX0_arrivalBy 95 = .ok (.bipush (-2), 2) := by decide +kernel
theorem dX0_arrivalBy_97 : decode cX0_arrivalBy 97 = .ok (.if_icmp .ne 6, 3) := by decide +kernel
theorem dX0_arrivalBy_100 : decode cX0_arrivalBy 100 = .ok (.bipush (-2), 2) := by decide +kernel
theorem dX0_arrivalBy_102 : decode cX0_arrivalBy 102 = .ok (.ireturn, 1) := by decide +kernel
theorem dX0_arrivalBy_103 : decode cX0_arrivalBy 103 = .ok (.iload 5, 2) := by decide +kernel
theorem dX0_arrivalBy_105 : decode cX0_arrivalBy 105 = .ok (.iconst (-1), 1) := by decide +kernel
theorem dX0_arrivalBy_106 : decode cX0_arrivalBy 106 = .ok (.if_icmp .eq 15, 3) := by decide +kernel
theorem dX0_arrivalBy_109 : decode cX0_arrivalBy 109 = .ok (.iload 6, 2) := by decide +kernel
theorem dX0_arrivalBy_111 : decode cX0_arrivalBy 111 = .ok (.iconst (-1), 1) := by decide +kernel
theorem dX0_arrivalBy_112 : decode cX0_arrivalBy 112 = .ok (.if_icmp .eq 9, 3) := by decide +kernel
theorem dX0_arrivalBy_115 : decode cX0_arrivalBy 115 = .ok (.iload 7, 2) := by decide +kernel
theorem dX0_arrivalBy_117 : decode cX0_arrivalBy 117 = .ok (.iconst (-1), 1) := by decide +kernel
theorem dX0_arrivalBy_118 : decode cX0_arrivalBy 118 = .ok (.if_icmp .ne 5, 3) := by decide +kernel
theorem dX0_arrivalBy_121 : decode cX0_arrivalBy 121 = .ok (.iconst (-1), 1) := by decide +kernel
theorem dX0_arrivalBy_122 : decode cX0_arrivalBy 122 = .ok (.ireturn, 1) := by decide +kernel
theorem dX0_arrivalBy_123 : decode cX0_arrivalBy 123 = .ok (.iload 4, 2) := by decide +kernel
theorem dX0_arrivalBy_125 : decode cX0_arrivalBy 125 = .ok (.iload 5, 2) := by decide +kernel
theorem dX0_arrivalBy_127 : decode cX0_arrivalBy 127 = .ok (.iload 6, 2) := by decide +kernel
theorem dX0_arrivalBy_129 : decode cX0_arrivalBy 129 = .ok (.iload 7, 2) := by decide +kernel
theorem dX0_arrivalBy_131 : decode cX0_arrivalBy 131 = .ok (.invokestatic 55, 3) := by decide +kernel
theorem dX0_arrivalBy_134 : decode cX0_arrivalBy 134 = .ok (.invokestatic 55, 3) := by decide +kernel
theorem dX0_arrivalBy_137 : decode cX0_arrivalBy 137 = .ok (.iadd, 1) := by decide +kernel
theorem dX0_arrivalBy_138 : decode cX0_arrivalBy 138 = .ok (.ireturn, 1) := by decide +kernel
theorem dX0_arrivalOf_0 : decode cX0_arrivalOf 0 = .ok (.iload_n 1, 1) := by decide +kernel
theorem dX0_arrivalOf_1 : decode cX0_arrivalOf 1 = .ok (.invokestatic 61, 3) := by decide +kernel
theorem dX0_arrivalOf_4 : decode cX0_arrivalOf 4 = .ok (.ifCond .eq 12, 3) := by decide +kernel
theorem dX0_arrivalOf_7 : decode cX0_arrivalOf 7 = .ok (.aload_n 0, 1) := by decide +kernel
theorem dX0_arrivalOf_8 : decode cX0_arrivalOf 8 = .ok (.getfield 9, 3) := by decide +kernel
theorem dX0_arrivalOf_11 : decode cX0_arrivalOf 11 = .ok (.iload_n 1, 1) := by decide +kernel
theorem dX0_arrivalOf_12 : decode cX0_arrivalOf 12 = .ok (.iaload, 1) := by decide +kernel
theorem dX0_arrivalOf_13 : decode cX0_arrivalOf 13 = .ok (.goto 4, 3) := by decide +kernel
theorem dX0_arrivalOf_16 : decode cX0_arrivalOf 16 = .ok (.iconst 0, 1) := by decide +kernel
theorem dX0_arrivalOf_17 : decode cX0_arrivalOf 17 = .ok (.ireturn, 1) := by decide +kernel
theorem dX0_greatest_0 : decode cX0_greatest 0 = .ok (.iconst 0, 1) := by decide +kernel
theorem dX0_greatest_1 : decode cX0_greatest 1 = .ok (.istore_n 1, 1) := by decide +kernel
theorem dX0_greatest_2 : decode cX0_greatest 2 = .ok (.iconst 0, 1) := by decide +kernel
theorem dX0_greatest_3 : decode cX0_greatest 3 = .ok (.istore_n 2, 1) := by decide +kernel
theorem dX0_greatest_4 : decode cX0_greatest 4 = .ok (.iload_n 2, 1) := by decide +kernel
theorem dX0_greatest_5 : decode cX0_greatest 5 = .ok (.bipush 24, 2) := by decide +kernel
theorem dX0_greatest_7 : decode cX0_greatest 7 = .ok (.if_icmp .ge 20, 3) := by decide +kernel
theorem dX0_greatest_10 : decode cX0_greatest 10 = .ok (.iload_n 1, 1) := by decide +kernel
theorem dX0_greatest_11 : decode cX0_greatest 11 = .ok (.aload_n 0, 1) := by decide +kernel
theorem dX0_greatest_12 : decode cX0_greatest 12 = .ok (.getfield 9, 3) := by decide +kernel
theorem dX0_greatest_15 : decode cX0_greatest 15 = .ok (.iload_n 2, 1) := by decide +kernel
theorem dX0_greatest_16 : decode cX0_greatest 16 = .ok (.iaload, 1) := by decide +kernel
theorem dX0_greatest_17 : decode cX0_greatest 17 = .ok (.invokestatic 55, 3) := by decide +kernel
theorem dX0_greatest_20 : decode cX0_greatest 20 = .ok (.istore_n 1, 1) := by decide +kernel
theorem dX0_greatest_21 : decode cX0_greatest 21 = .ok (.iinc 2 1, 3) := by decide +kernel
theorem dX0_greatest_24 : decode cX0_greatest 24 = .ok (.goto (-20), 3) := by decide +kernel
theorem dX0_greatest_27 : decode cX0_greatest 27 = .ok (.iload_n 1, 1) := by decide +kernel
theorem dX0_greatest_28 : decode cX0_greatest 28 = .ok (.ireturn, 1) := by decide +kernel
theorem dX0_latestDriven_0 : decode cX0_latestDriven 0 = .ok (.iconst (-1), 1) := by decide +kernel
theorem dX0_latestDriven_1 : decode cX0_latestDriven 1 = .ok (.istore_n 2, 1) := by decide +kernel
theorem dX0_latestDriven_2 : decode cX0_latestDriven 2 = .ok (.iconst (-1), 1) := by decide +kernel
theorem dX0_latestDriven_3 : decode cX0_latestDriven 3 = .ok (.istore_n 3, 1) := by decide +kernel
theorem dX0_latestDriven_4 : decode cX0_latestDriven 4 = .ok (.iconst 0, 1) := by decide +kernel
theorem dX0_latestDriven_5 : decode cX0_latestDriven 5 = .ok (.istore 4, 2) := by decide +kernel
theorem dX0_latestDriven_7 : decode cX0_latestDriven 7 = .ok (.iload 4, 2) := by decide +kernel
theorem dX0_latestDriven_9 : decode cX0_latestDriven 9 = .ok (.bipush 24, 2) := by decide +kernel
theorem dX0_latestDriven_11 : decode cX0_latestDriven 11 = .ok (.if_icmp .ge 41, 3) := by decide +kernel
theorem dX0_latestDriven_14 : decode cX0_latestDriven 14 = .ok (.aload_n 1, 1) := by decide +kernel
theorem dX0_latestDriven_15 : decode cX0_latestDriven 15 = .ok (.getfield 65, 3) := by decide +kernel
theorem dX0_latestDriven_18 : decode cX0_latestDriven 18 = .ok (.iload 4, 2) := by decide +kernel
theorem dX0_latestDriven_20 : decode cX0_latestDriven 20 = .ok (.iaload, 1) := by decide +kernel
theorem dX0_latestDriven_21 : decode cX0_latestDriven 21 = .ok (.ifCond .le 25, 3) := by decide +kernel
theorem dX0_latestDriven_24 : decode cX0_latestDriven 24 = .ok (.aload_n 0, 1) := by decide +kernel
theorem dX0_latestDriven_25 : decode cX0_latestDriven 25 = .ok (.getfield 9, 3) := by decide +kernel
theorem dX0_latestDriven_28 : decode cX0_latestDriven 28 = .ok (.iload 4, 2) := by decide +kernel
theorem dX0_latestDriven_30 : decode cX0_latestDriven 30 = .ok (.iaload, 1) := by decide +kernel
theorem dX0_latestDriven_31 : decode cX0_latestDriven 31 = .ok (.iload_n 3, 1) := by decide +kernel
theorem dX0_latestDriven_32 : decode cX0_latestDriven 32 = .ok (.if_icmp .le 14, 3) := by decide +kernel
theorem dX0_latestDriven_35 : decode cX0_latestDriven 35 = .ok (.iload 4, 2) := by decide +kernel
theorem dX0_latestDriven_37 : decode cX0_latestDriven 37 = .ok (.istore_n 2, 1) := by decide +kernel
theorem dX0_latestDriven_38 : decode cX0_latestDriven 38 = .ok (.aload_n 0, 1) := by decide +kernel
theorem dX0_latestDriven_39 : decode cX0_latestDriven 39 = .ok (.getfield 9, 3) := by decide +kernel
theorem dX0_latestDriven_42 : decode cX0_latestDriven 42 = .ok (.iload 4, 2) := by decide +kernel
theorem dX0_latestDriven_44 : decode cX0_latestDriven 44 = .ok (.iaload, 1) := by decide +kernel
theorem dX0_latestDriven_45 : decode cX0_latestDriven 45 = .ok (.istore_n 3, 1) := by decide +kernel
theorem dX0_latestDriven_46 : decode cX0_latestDriven 46 = .ok (.iinc 4 1, 3) := by decide +kernel
theorem dX0_latestDriven_49 : decode cX0_latestDriven 49 = .ok (.goto (-42), 3) := by decide +kernel
theorem dX0_latestDriven_52 : decode cX0_latestDriven 52 = .ok (.iload_n 2, 1) := by decide +kernel
theorem dX0_latestDriven_53 : decode cX0_latestDriven 53 = .ok (.ireturn, 1) := by decide +kernel
theorem dX0_wireBehind_0 : decode cX0_wireBehind 0 = .ok (.aload_n 1, 1) := by decide +kernel
theorem dX0_wireBehind_1 : decode cX0_wireBehind 1 = .ok (.iload_n 2, 1) := by decide +kernel
theorem dX0_wireBehind_2 : decode cX0_wireBehind 2 = .ok (.invokevirtual 21, 3) := by decide +kernel
theorem dX0_wireBehind_5 : decode cX0_wireBehind 5 = .ok (.istore_n 3, 1) := by decide +kernel
theorem dX0_wireBehind_6 : decode cX0_wireBehind 6 = .ok (.iload_n 3, 1) := by decide +kernel
theorem dX0_wireBehind_7 : decode cX0_wireBehind 7 = .ok (.iconst (-1), 1) := by decide +kernel
theorem dX0_wireBehind_8 : decode cX0_wireBehind 8 = .ok (.if_icmp .eq 11, 3) := by decide +kernel
theorem dX0_wireBehind_11 : decode cX0_wireBehind 11 = .ok (.aload_n 1, 1) := by decide +kernel
theorem dX0_wireBehind_12 : decode cX0_wireBehind 12 = .ok (.iload_n 3, 1) := by decide +kernel
theorem dX0_wireBehind_13 : decode cX0_wireBehind 13 = .ok (.invokevirtual 68, 3) := by decide +kernel
theorem dX0_wireBehind_16 : decode cX0_wireBehind 16 = .ok (.ifCond .ne 5, 3) := by decide +kernel
theorem dX0_wireBehind_19 : decode cX0_wireBehind 19 = .ok (.iconst (-1), 1) := by decide +kernel
theorem dX0_wireBehind_20 : decode cX0_wireBehind 20 = .ok (.ireturn, 1) := by decide +kernel
theorem dX0_wireBehind_21 : decode cX0_wireBehind 21 = .ok (.aload_n 1, 1) := by decide +kernel
theorem dX0_wireBehind_22 : decode cX0_wireBehind 22 = .ok (.getfield 43, 3) := by decide +kernel
theorem dX0_wireBehind_25 : decode cX0_wireBehind 25 = .ok (.iload_n 3, 1) := by decide +kernel
theorem dX0_wireBehind_26 : decode cX0_wireBehind 26 = .ok (.iaload, 1) := by decide +kernel
theorem dX0_wireBehind_27 : decode cX0_wireBehind 27 = .ok (.istore 4, 2) := by decide +kernel
theorem dX0_wireBehind_29 : decode cX0_wireBehind 29 = .ok (.aload_n 0, 1) := by decide +kernel
theorem dX0_wireBehind_30 : decode cX0_wireBehind 30 = .ok (.aload_n 1, 1) := by decide +kernel
theorem dX0_wireBehind_31 : decode cX0_wireBehind 31 = .ok (.getfield 49, 3) := by decide +kernel
theorem dX0_wireBehind_34 : decode cX0_wireBehind 34 = .ok (.iload_n 3, 1) := by decide +kernel
theorem dX0_wireBehind_35 : decode cX0_wireBehind 35 = .ok (.iaload, 1) := by decide +kernel
theorem dX0_wireBehind_36 : decode cX0_wireBehind 36 = .ok (.invokevirtual 46, 3) := by decide +kernel
theorem dX0_wireBehind_39 : decode cX0_wireBehind 39 = .ok (.aload_n 0, 1) := by decide +kernel
theorem dX0_wireBehind_40 : decode cX0_wireBehind 40 = .ok (.iload 4, 2) := by decide +kernel
theorem dX0_wireBehind_42 : decode cX0_wireBehind 42 = .ok (.invokevirtual 46, 3) := by decide +kernel
theorem dX0_wireBehind_45 : decode cX0_wireBehind 45 = .ok (.if_icmp .le 11, 3) := by decide +kernel
theorem dX0_wireBehind_48 : decode cX0_wireBehind 48 = .ok (.aload_n 1, 1) := by decide +kernel
theorem dX0_wireBehind_49 : decode cX0_wireBehind 49 = .ok (.getfield 49, 3) := by decide +kernel
theorem dX0_wireBehind_52 : decode cX0_wireBehind 52 = .ok (.iload_n 3, 1) := by decide +kernel
theorem dX0_wireBehind_53 : decode cX0_wireBehind 53 = .ok (.iaload, 1) := by decide +kernel
theorem dX0_wireBehind_54 : decode cX0_wireBehind 54 = .ok (.istore 4, 2) := by decide +kernel
theorem dX0_wireBehind_56 : decode cX0_wireBehind 56 = .ok (.aload_n 0, 1) := by decide +kernel
theorem dX0_wireBehind_57 : decode cX0_wireBehind 57 = .ok (.aload_n 1, 1) := by decide +kernel
theorem dX0_wireBehind_58 : decode cX0_wireBehind 58 = .ok (.getfield 52, 3) := by decide +kernel
theorem dX0_wireBehind_61 : decode cX0_wireBehind 61 = .ok (.iload_n 3, 1) := by decide +kernel
theorem dX0_wireBehind_62 : decode cX0_wireBehind 62 = .ok (.iaload, 1) := by decide +kernel
theorem dX0_wireBehind_63 : decode cX0_wireBehind 63 = .ok (.invokevirtual 46, 3) := by decide +kernel
theorem dX0_wireBehind_66 : decode cX0_wireBehind 66 = .ok (.aload_n 0, 1) := by decide +kernel
theorem dX0_wireBehind_67 : decode cX0_wireBehind 67 = .ok (.iload 4, 2) := by decide +kernel
theorem dX0_wireBehind_69 : decode cX0_wireBehind 69 = .ok (.invokevirtual 46, 3) := by decide +kernel
theorem dX0_wireBehind_72 : decode cX0_wireBehind 72 = .ok (.if_icmp .le 11, 3) := by decide +kernel
theorem dX0_wireBehind_75 : decode cX0_wireBehind 75 = .ok (.aload_n 1, 1) := by decide +kernel
theorem dX0_wireBehind_76 : decode cX0_wireBehind 76 = .ok (.getfield 52, 3) := by decide +kernel
theorem dX0_wireBehind_79 : decode cX0_wireBehind 79 = .ok (.iload_n 3, 1) := by decide +kernel
theorem dX0_wireBehind_80 : decode cX0_wireBehind 80 = .ok (.iaload, 1) := by decide +kernel
theorem dX0_wireBehind_81 : decode cX0_wireBehind 81 = .ok (.istore 4, 2) := by decide +kernel
theorem dX0_wireBehind_83 : decode cX0_wireBehind 83 = .ok (.iload 4, 2) := by decide +kernel
theorem dX0_wireBehind_85 : decode cX0_wireBehind 85 = .ok (.ireturn, 1) := by decide +kernel
theorem dX1_init_0 : decode cX1_init 0 = .ok (.aload_n 0, 1) := by decide +kernel
theorem dX1_init_1 : decode cX1_init 1 = .ok (.invokespecial 3, 3) := by decide +kernel
theorem dX1_init_4 : decode cX1_init 4 = .ok (.aload_n 0, 1) := by decide +kernel
theorem dX1_init_5 : decode cX1_init 5 = .ok (.bipush 30, 2) := by decide +kernel
theorem dX1_init_7 : decode cX1_init 7 = .ok (.newarray .int, 2) := by decide +kernel
theorem dX1_init_9 : decode cX1_init 9 = .ok (.putfield 9, 3) := by decide +kernel
theorem dX1_init_12 : decode cX1_init 12 = .ok (.aload_n 0, 1) := by decide +kernel
theorem dX1_init_13 : decode cX1_init 13 = .ok (.bipush 30, 2) := by decide +kernel
theorem dX1_init_15 : decode cX1_init 15 = .ok (.newarray .int, 2) := by decide +kernel
theorem dX1_init_17 : decode cX1_init 17 = .ok (.putfield 15, 3) := by decide +kernel
theorem dX1_init_20 : decode cX1_init 20 = .ok (.aload_n 0, 1) := by decide +kernel
theorem dX1_init_21 : decode cX1_init 21 = .ok (.bipush 30, 2) := by decide +kernel
theorem dX1_init_23 : decode cX1_init 23 = .ok (.newarray .int, 2) := by decide +kernel
theorem dX1_init_25 : decode cX1_init 25 = .ok (.putfield 18, 3) := by decide +kernel
theorem dX1_init_28 : decode cX1_init 28 = .ok (.aload_n 0, 1) := by decide +kernel
theorem dX1_init_29 : decode cX1_init 29 = .ok (.bipush 30, 2) := by decide +kernel
theorem dX1_init_31 : decode cX1_init 31 = .ok (.newarray .int, 2) := by decide +kernel
theorem dX1_init_33 : decode cX1_init 33 = .ok (.putfield 21, 3) := by decide +kernel
theorem dX1_init_36 : decode cX1_init 36 = .ok (.aload_n 0, 1) := by decide +kernel
theorem dX1_init_37 : decode cX1_init 37 = .ok (.bipush 30, 2) := by decide +kernel
theorem dX1_init_39 : decode cX1_init 39 = .ok (.newarray .int, 2) := by decide +kernel
theorem dX1_init_41 : decode cX1_init 41 = .ok (.putfield 24, 3) := by decide +kernel
theorem dX1_init_44 : decode cX1_init 44 = .ok (.aload_n 0, 1) := by decide +kernel
theorem dX1_init_45 : decode cX1_init 45 = .ok (.bipush 30, 2) := by decide +kernel
theorem dX1_init_47 : decode cX1_init 47 = .ok (.newarray .int, 2) := by decide +kernel
theorem dX1_init_49 : decode cX1_init 49 = .ok (.putfield 27, 3) := by decide +kernel
theorem dX1_init_52 : decode cX1_init 52 = .ok (.aload_n 0, 1) := by decide +kernel
theorem dX1_init_53 : decode cX1_init 53 = .ok (.bipush 30, 2) := by decide +kernel
theorem dX1_init_55 : decode cX1_init 55 = .ok (.newarray .int, 2) := by decide +kernel
theorem dX1_init_57 : decode cX1_init 57 = .ok (.putfield 30, 3) := by decide +kernel
theorem dX1_init_60 : decode cX1_init 60 = .ok (.aload_n 0, 1) := by decide +kernel
theorem dX1_init_61 : decode cX1_init 61 = .ok (.bipush 30, 2) := by decide +kernel
theorem dX1_init_63 : decode cX1_init 63 = .ok (.newarray .int, 2) := by decide +kernel
theorem dX1_init_65 : decode cX1_init 65 = .ok (.putfield 33, 3) := by decide +kernel
theorem dX1_init_68 : decode cX1_init 68 = .ok (.aload_n 0, 1) := by decide +kernel
theorem dX1_init_69 : decode cX1_init 69 = .ok (.bipush 24, 2) := by decide +kernel
theorem dX1_init_71 : decode cX1_init 71 = .ok (.newarray .int, 2) := by decide +kernel
theorem dX1_init_73 : decode cX1_init 73 = .ok (.putfield 36, 3) := by decide +kernel
theorem dX1_init_76 : decode cX1_init 76 = .ok (.aload_n 0, 1) := by decide +kernel
theorem dX1_init_77 : decode cX1_init 77 = .ok (.bipush 24, 2) := by decide +kernel
theorem dX1_init_79 : decode cX1_init 79 = .ok (.newarray .int, 2) := by decide +kernel
theorem dX1_init_81 : decode cX1_init 81 = .ok (.putfield 39, 3) := by decide +kernel
theorem dX1_init_84 : decode cX1_init 84 = .ok (.aload_n 0, 1) := by decide +kernel
theorem dX1_init_85 : decode cX1_init 85 = .ok (.bipush 24, 2) := by decide +kernel
theorem dX1_init_87 : decode cX1_init 87 = .ok (.newarray .int, 2) := by decide +kernel
theorem dX1_init_89 : decode cX1_init 89 = .ok (.putfield 42, 3) := by decide +kernel
theorem dX1_init_92 : decode cX1_init 92 = .ok (.aload_n 0, 1) := by decide +kernel
theorem dX1_init_93 : decode cX1_init 93 = .ok (.getfield 42, 3) := by decide +kernel
theorem dX1_init_96 : decode cX1_init 96 = .ok (.iconst (-1), 1) := by decide +kernel
theorem dX1_init_97 : decode cX1_init 97 = .ok (.invokestatic 45, 3) := by decide +kernel
theorem dX1_init_100 : decode cX1_init 100 = .ok (.aload_n 0, 1) := by decide +kernel
theorem dX1_init_101 : decode cX1_init 101 = .ok (.iconst 0, 1) := by decide +kernel
theorem dX1_init_102 : decode cX1_init 102 = .ok (.putfield 51, 3) := by decide +kernel
theorem dX1_init_105 : decode cX1_init 105 = .ok (.return_, 1) := by decide +kernel
theorem dX1_add_0 : decode cX1_add 0 = .ok (.aload_n 0, 1) := by decide +kernel
theorem dX1_add_1 : decode cX1_add 1 = .ok (.getfield 51, 3) := by decide +kernel
theorem dX1_add_4 : decode cX1_add 4 = .ok (.bipush 30, 2) := by decide +kernel
theorem dX1_add_6 : decode cX1_add 6 = .ok (.if_icmp .ge 10, 3) := by decide +kernel
theorem dX1_add_9 : decode cX1_add 9 = .ok (.iload_n 2, 1) := by decide +kernel
theorem dX1_add_10 : decode cX1_add 10 = .ok (.invokestatic 55, 3) := by decide +kernel
theorem dX1_add_13 : decode cX1_add 13 = .ok (.ifCond .ne 5, 3) := by decide +kernel
theorem dX1_add_16 : decode cX1_add 16 = .ok (.iconst (-1), 1) := by decide +kernel
theorem dX1_add_17 : decode cX1_add 17 = .ok (.ireturn, 1) := by decide +kernel
theorem dX1_add_18 : decode cX1_add 18 = .ok (.aload_n 0, 1) := by decide +kernel
theorem dX1_add_19 : decode cX1_add 19 = .ok (.getfield 51, 3) := by decide +kernel
theorem dX1_add_22 : decode cX1_add 22 = .ok (.istore 7, 2) := by decide +kernel
theorem dX1_add_24 : decode cX1_add 24 = .ok (.aload_n 0, 1) := by decide +kernel
theorem dX1_add_25 : decode cX1_add 25 = .ok (.getfield 9, 3) := by decide +kernel
theorem dX1_add_28 : decode cX1_add 28 = .ok (.iload 7, 2) := by decide +kernel
theorem dX1_add_30 : decode cX1_add 30 = .ok (.iload_n 1, 1) := by decide +kernel
theorem dX1_add_31 : decode cX1_add 31 = .ok (.iastore, 1) := by decide +kernel
theorem dX1_add_32 : decode cX1_add 32 = .ok (.aload_n 0, 1) := by decide +kernel
theorem dX1_add_33 : decode cX1_add 33 = .ok (.getfield 15, 3) := by decide +kernel
theorem dX1_add_36 : decode cX1_add 36 = .ok (.iload 7, 2) := by decide +kernel
theorem dX1_add_38 : decode cX1_add 38 = .ok (.iload_n 2, 1) := by decide +kernel
theorem dX1_add_39 : decode cX1_add 39 = .ok (.iastore, 1) := by decide +kernel
theorem dX1_add_40 : decode cX1_add 40 = .ok (.aload_n 0, 1) := by decide +kernel
theorem dX1_add_41 : decode cX1_add 41 = .ok (.getfield 18, 3) := by decide +kernel
theorem dX1_add_44 : decode cX1_add 44 = .ok (.iload 7, 2) := by decide +kernel
theorem dX1_add_46 : decode cX1_add 46 = .ok (.iload_n 3, 1) := by decide +kernel
theorem dX1_add_47 : decode cX1_add 47 = .ok (.iastore, 1) := by decide +kernel
theorem dX1_add_48 : decode cX1_add 48 = .ok (.aload_n 0, 1) := by decide +kernel
theorem dX1_add_49 : decode cX1_add 49 = .ok (.getfield 21, 3) := by decide +kernel
theorem dX1_add_52 : decode cX1_add 52 = .ok (.iload 7, 2) := by decide +kernel
theorem dX1_add_54 : decode cX1_add 54 = .ok (.iload 4, 2) := by decide +kernel
theorem dX1_add_56 : decode cX1_add 56 = .ok (.iastore, 1) := by decide +kernel
theorem dX1_add_57 : decode cX1_add 57 = .ok (.aload_n 0, 1) := by decide +kernel
theorem dX1_add_58 : decode cX1_add 58 = .ok (.getfield 24, 3) := by decide +kernel
theorem dX1_add_61 : decode cX1_add 61 = .ok (.iload 7, 2) := by decide +kernel
theorem dX1_add_63 : decode cX1_add 63 = .ok (.iload 5, 2) := by decide +kernel
theorem dX1_add_65 : decode cX1_add 65 = .ok (.iastore, 1) := by decide +kernel
theorem dX1_add_66 : decode cX1_add 66 = .ok (.aload_n 0, 1) := by decide +kernel
theorem dX1_add_67 : decode cX1_add 67 = .ok (.getfield 27, 3) := by decide +kernel
theorem dX1_add_70 : decode cX1_add 70 = .ok (.iload 7, 2) := by decide +kernel
theorem dX1_add_72 : decode cX1_add 72 = .ok (.iload 6, 2) := by decide +kernel
theorem dX1_add_74 : decode cX1_add 74 = .ok (.iastore, 1) := by decide +kernel
theorem dX1_add_75 : decode cX1_add 75 = .ok (.aload_n 0, 1) := by decide +kernel
theorem dX1_add_76 : decode cX1_add 76 = .ok (.iload 7, 2) := by decide +kernel
theorem dX1_add_78 : decode cX1_add 78 = .ok (.iload_n 3, 1) := by decide +kernel
theorem dX1_add_79 : decode cX1_add 79 = .ok (.invokevirtual 59, 3) := by decide +kernel
theorem dX1_add_82 : decode cX1_add 82 = .ok (.aload_n 0, 1) := by decide +kernel
theorem dX1_add_83 : decode cX1_add 83 = .ok (.iload 7, 2) := by decide +kernel
theorem dX1_add_85 : decode cX1_add 85 = .ok (.iload 4, 2) := by decide +kernel
theorem dX1_add_87 : decode cX1_add 87 = .ok (.invokevirtual 59, 3) := by decide +kernel
theorem dX1_add_90 : decode cX1_add 90 = .ok (.aload_n 0, 1) := by decide +kernel
theorem dX1_add_91 : decode cX1_add 91 = .ok (.iload 7, 2) := by decide +kernel
theorem dX1_add_93 : decode cX1_add 93 = .ok (.iload 5, 2) := by decide +kernel
theorem dX1_add_95 : decode cX1_add 95 = .ok (.invokevirtual 59, 3) := by decide +kernel
theorem dX1_add_98 : decode cX1_add 98 = .ok (.aload_n 0, 1) := by decide +kernel
theorem dX1_add_99 : decode cX1_add 99 = .ok (.getfield 39, 3) := by decide +kernel
theorem dX1_add_102 : decode cX1_add 102 = .ok (.iload_n 2, 1) := by decide +kernel
theorem dX1_add_103 : decode cX1_add 103 = .ok (.iaload, 1) := by decide +kernel
theorem dX1_add_104 : decode cX1_add 104 = .ok (.ifCond .ne 11, 3) := by decide +kernel
theorem dX1_add_107 : decode cX1_add 107 = .ok (.aload_n 0, 1) := by decide +kernel
theorem dX1_add_108 : decode cX1_add 108 = .ok (.getfield 42, 3) := by decide +kernel
theorem dX1_add_111 : decode cX1_add 111 = .ok (.iload_n 2, 1) := by decide +kernel
theorem dX1_add_112 : decode cX1_add 112 = .ok (.iload 7, 2) := by decide +kernel
theorem dX1_add_114 : decode cX1_add 114 = .ok (.iastore, 1) := by decide +kernel
theorem dX1_add_115 : decode cX1_add 115 = .ok (.aload_n 0, 1) := by decide +kernel
theorem dX1_add_116 : decode cX1_add 116 = .ok (.getfield 39, 3) := by decide +kernel
theorem dX1_add_119 : decode cX1_add 119 = .ok (.iload_n 2, 1) := by decide +kernel
theorem dX1_add_120 : decode cX1_add 120 = .ok (.dup2, 1) := by decide +kernel
theorem dX1_add_121 : decode cX1_add 121 = .ok (.iaload, 1) := by decide +kernel
theorem dX1_add_122 : decode cX1_add 122 = .ok (.iconst 1, 1) := by decide +kernel
theorem dX1_add_123 : decode cX1_add 123 = .ok (.iadd, 1) := by decide +kernel
theorem dX1_add_124 : decode cX1_add 124 = .ok (.iastore, 1) := by decide +kernel
theorem dX1_add_125 : decode cX1_add 125 = .ok (.aload_n 0, 1) := by decide +kernel
theorem dX1_add_126 : decode cX1_add 126 = .ok (.dup, 1) := by decide +kernel
theorem dX1_add_127 : decode cX1_add 127 = .ok (.getfield 51, 3) := by decide +kernel
theorem dX1_add_130 : decode cX1_add 130 = .ok (.iconst 1, 1) := by decide +kernel
theorem dX1_add_131 : decode cX1_add 131 = .ok (.iadd, 1) := by decide +kernel
theorem dX1_add_132 : decode cX1_add 132 = .ok (.putfield 51, 3) := by decide +kernel
theorem dX1_add_135 : decode cX1_add 135 = .ok (.iload 7, 2) := by decide +kernel
theorem dX1_add_137 : decode cX1_add 137 = .ok (.ireturn, 1) := by decide +kernel
theorem dX1_noteUse_0 : decode cX1_noteUse 0 = .ok (.iload_n 2, 1) := by decide +kernel
theorem dX1_noteUse_1 : decode cX1_noteUse 1 = .ok (.invokestatic 55, 3) := by decide +kernel
theorem dX1_noteUse_4 : decode cX1_noteUse 4 = .ok (.ifCond .eq 15, 3) := by decide +kernel
theorem dX1_noteUse_7 : decode cX1_noteUse 7 = .ok (.aload_n 0, 1) := by decide +kernel
theorem dX1_noteUse_8 : decode cX1_noteUse 8 = .ok (.getfield 36, 3) := by decide +kernel
theorem dX1_noteUse_11 : decode cX1_noteUse 11 = .ok (.iload_n 2, 1) := by decide +kernel
theorem dX1_noteUse_12 : decode cX1_noteUse 12 = .ok (.dup2, 1) := by decide +kernel
theorem dX1_noteUse_13 : decode cX1_noteUse 13 = .ok (.iaload, 1) := by decide +kernel
theorem dX1_noteUse_14 : decode cX1_noteUse 14 = .ok (.iconst 1, 1) := by decide +kernel
theorem dX1_noteUse_15 : decode cX1_noteUse 15 = .ok (.iload_n 1, 1) := by decide +kernel
theorem dX1_noteUse_16 : decode cX1_noteUse 16 = .ok (.ishl, 1) := by decide +kernel
theorem dX1_noteUse_17 : decode cX1_noteUse 17 = .ok (.ior, 1) := by decide +kernel
theorem dX1_noteUse_18 : decode cX1_noteUse 18 = .ok (.iastore, 1) := by decide +kernel
theorem dX1_noteUse_19 : decode cX1_noteUse 19 = .ok (.return_, 1) := by decide +kernel
theorem dX1_isGate_0 : decode cX1_isGate 0 = .ok (.aload_n 0, 1) := by decide +kernel
theorem dX1_isGate_1 : decode cX1_isGate 1 = .ok (.getfield 9, 3) := by decide +kernel
theorem dX1_isGate_4 : decode cX1_isGate 4 = .ok (.iload_n 1, 1) := by decide +kernel
theorem dX1_isGate_5 : decode cX1_isGate 5 = .ok (.iaload, 1) := by decide +kernel
theorem dX1_isGate_6 : decode cX1_isGate 6 = .ok (.bipush 7, 2) := by decide +kernel
theorem dX1_isGate_8 : decode cX1_isGate 8 = .ok (.if_icmp .gt 7, 3) := by decide +kernel
theorem dX1_isGate_11 : decode cX1_isGate 11 = .ok (.iconst 1, 1) := by decide +kernel
theorem dX1_isGate_12 : decode cX1_isGate 12 = .ok (.goto 4, 3) := by decide +kernel
theorem dX1_isGate_15 : decode cX1_isGate 15 = .ok (.iconst 0, 1) := by decide +kernel
theorem dX1_isGate_16 : decode cX1_isGate 16 = .ok (.ireturn, 1) := by decide +kernel
theorem dX1_isFirstDrivenBy_0 : decode cX1_isFirstDrivenBy 0 = .ok (.aload_n 0, 1) := by decide +kernel
theorem dX1_isFirstDrivenBy_1 : decode cX1_isFirstDrivenBy 1 = .ok (.iload_n 1, 1) := by decide +kernel
theorem dX1_isFirstDrivenBy_2 : decode cX1_isFirstDrivenBy 2 = .ok (.invokevirtual 63, 3) := by decide +kernel
theorem dX1_isFirstDrivenBy_5 : decode cX1_isFirstDrivenBy 5 = .ok (.istore_n 3, 1) := by decide +kernel
theorem dX1_isFirstDrivenBy_6 : decode cX1_isFirstDrivenBy 6 = .ok (.iload_n 3, 1) := by decide +kernel
theorem dX1_isFirstDrivenBy_7 : decode cX1_isFirstDrivenBy 7 = .ok (.iconst (-1), 1) := by decide +kernel
theorem dX1_isFirstDrivenBy_8 : decode cX1_isFirstDrivenBy 8 = .ok (.if_icmp .eq 17, 3) := by decide +kernel
theorem dX1_isFirstDrivenBy_11 : decode cX1_isFirstDrivenBy 11 = .ok (.aload_n 0, 1) := by decide +kernel
theorem dX1_isFirstDrivenBy_12 : decode cX1_isFirstDrivenBy 12 = .ok (.getfield 9, 3) := by decide +kernel
theorem dX1_isFirstDrivenBy_15 : decode cX1_isFirstDrivenBy 15 = .ok (.iload_n 3, 1) := by decide +kernel
theorem dX1_isFirstDrivenBy_16 : decode cX1_isFirstDrivenBy 16 = .ok (.iaload, 1) := by decide +kernel
theorem dX1_isFirstDrivenBy_17 : decode cX1_isFirstDrivenBy 17 = .ok (.iload_n 2, 1) := by decide +kernel
theorem dX1_isFirstDrivenBy_18 : decode cX1_isFirstDrivenBy 18 = .ok (.if_icmp .ne 7, 3) := by decide +kernel
theorem dX1_isFirstDrivenBy_21 : decode cX1_isFirstDrivenBy 21 = .ok (.iconst 1, 1) := by decide +kernel
theorem dX1_isFirstDrivenBy_22 : decode cX1_isFirstDrivenBy 22 = .ok (.goto 4, 3) := by decide +kernel
theorem dX1_isFirstDrivenBy_25 : decode cX1_isFirstDrivenBy 25 = .ok (.iconst 0, 1) := by decide +kernel
theorem dX1_isFirstDrivenBy_26 : decode cX1_isFirstDrivenBy 26 = .ok (.ireturn, 1) := by decide +kernel
theorem dX1_isUsedBy_0 : decode cX1_isUsedBy 0 = .ok (.aload_n 0, 1) := by decide +kernel
theorem dX1_isUsedBy_1 : decode cX1_isUsedBy 1 = .ok (.getfield 36, 3) := by decide +kernel
theorem dX1_isUsedBy_4 : decode cX1_isUsedBy 4 = .ok (.iload_n 1, 1) := by decide +kernel
theorem dX1_isUsedBy_5 : decode cX1_isUsedBy 5 = .ok (.iaload, 1) := by decide +kernel
theorem dX1_isUsedBy_6 : decode cX1_isUsedBy 6 = .ok (.iconst 1, 1) := by decide +kernel
theorem dX1_isUsedBy_7 : decode cX1_isUsedBy 7 = .ok (.iload_n 2, 1) := by decide +kernel
theorem dX1_isUsedBy_8 : decode cX1_isUsedBy 8 = .ok (.ishl, 1) := by decide +kernel
theorem dX1_isUsedBy_9 : decode cX1_isUsedBy 9 = .ok (.iand, 1) := by decide +kernel
theorem dX1_isUsedBy_10 : decode cX1_isUsedBy 10 = .ok (.ifCond .eq 7, 3) := by decide +kernel
theorem dX1_isUsedBy_13 : decode cX1_isUsedBy 13 = .ok (.iconst 1, 1) := by decide +kernel
theorem dX1_isUsedBy_14 : decode cX1_isUsedBy 14 = .ok (.goto 4, 3) := by decide +kernel
theorem dX1_isUsedBy_17 : decode cX1_isUsedBy 17 = .ok (.iconst 0, 1) := by decide +kernel
theorem dX1_isUsedBy_18 : decode cX1_isUsedBy 18 = .ok (.ireturn, 1) := by decide +kernel
theorem dX1_firstLineOf_0 : decode cX1_firstLineOf 0 = .ok (.iload_n 1, 1) := by decide +kernel
theorem dX1_firstLineOf_1 : decode cX1_firstLineOf 1 = .ok (.invokestatic 55, 3) := by decide +kernel
theorem dX1_firstLineOf_4 : decode cX1_firstLineOf 4 = .ok (.ifCond .eq 12, 3) := by decide +kernel
theorem dX1_firstLineOf_7 : decode cX1_firstLineOf 7 = .ok (.aload_n 0, 1) := by decide +kernel
theorem dX1_firstLineOf_8 : decode cX1_firstLineOf 8 = .ok (.getfield 42, 3) := by decide +kernel
theorem dX1_firstLineOf_11 : decode cX1_firstLineOf 11 = .ok (.iload_n 1, 1) := by decide +kernel
theorem dX1_firstLineOf_12 : decode cX1_firstLineOf 12 = .ok (.iaload, 1) := by decide +kernel
theorem dX1_firstLineOf_13 : decode cX1_firstLineOf 13 = .ok (.goto 4, 3) := by decide +kernel
theorem dX1_firstLineOf_16 : decode cX1_firstLineOf 16 = .ok (.iconst (-1), 1) := by decide +kernel
theorem dX1_firstLineOf_17 : decode cX1_firstLineOf 17 = .ok (.istore_n 2, 1) := by decide +kernel
theorem dX1_firstLineOf_18 : decode cX1_firstLineOf 18 = .ok (.iload_n 2, 1) := by decide +kernel
theorem dX1_firstLineOf_19 : decode cX1_firstLineOf 19 = .ok (.ifCond .lt 15, 3) := by decide +kernel
theorem dX1_firstLineOf_22 : decode cX1_firstLineOf 22 = .ok (.iload_n 2, 1) := by decide +kernel
theorem dX1_firstLineOf_23 : decode cX1_firstLineOf 23 = .ok (.aload_n 0, 1) := by decide +kernel
theorem dX1_firstLineOf_24 : decode cX1_firstLineOf 24 = .ok (.getfield 51, 3) := by decide +kernel
theorem dX1_firstLineOf_27 : decode cX1_firstLineOf 27 = .ok (.if_icmp .ge 7, 3) := by decide +kernel
theorem dX1_firstLineOf_30 : decode cX1_firstLineOf 30 = .ok (.iload_n 2, 1) := by decide +kernel
theorem dX1_firstLineOf_31 : decode cX1_firstLineOf 31 = .ok (.goto 4, 3) := by decide +kernel
theorem dX1_firstLineOf_34 : decode cX1_firstLineOf 34 = .ok (.iconst (-1), 1) := by decide +kernel
theorem dX1_firstLineOf_35 : decode cX1_firstLineOf 35 = .ok (.ireturn, 1) := by decide +kernel
theorem dX1_pinsOf_0 : decode cX1_pinsOf 0 = .ok (.iconst 1, 1) := by decide +kernel
theorem dX1_pinsOf_1 : decode cX1_pinsOf 1 = .ok (.aload_n 0, 1) := by decide +kernel
theorem dX1_pinsOf_2 : decode cX1_pinsOf 2 = .ok (.getfield 18, 3) := by decide +kernel
theorem dX1_pinsOf_5 : decode cX1_pinsOf 5 = .ok (.iload_n 1, 1) := by decide +kernel
theorem dX1_pinsOf_6 : decode cX1_pinsOf 6 = .ok (.iaload, 1) := by decide +kernel
theorem dX1_pinsOf_7 : decode cX1_pinsOf 7 = .ok (.ishl, 1) := by decide +kernel
theorem dX1_pinsOf_8 : decode cX1_pinsOf 8 = .ok (.iconst 1, 1) := by decide +kernel
theorem dX1_pinsOf_9 : decode cX1_pinsOf 9 = .ok (.aload_n 0, 1) := by decide +kernel
theorem dX1_pinsOf_10 : decode cX1_pinsOf 10 = .ok (.getfield 21, 3) := by decide +kernel
theorem dX1_pinsOf_13 : decode cX1_pinsOf 13 = .ok (.iload_n 1, 1) := by decide +kernel
theorem dX1_pinsOf_14 : decode cX1_pinsOf 14 = .ok (.iaload, 1) := by decide +kernel
theorem dX1_pinsOf_15 : decode cX1_pinsOf 15 = .ok (.ishl, 1) := by decide +kernel
theorem dX1_pinsOf_16 : decode cX1_pinsOf 16 = .ok (.ior, 1) := by decide +kernel
theorem dX1_pinsOf_17 : decode cX1_pinsOf 17 = .ok (.iconst 1, 1) := by decide +kernel
theorem dX1_pinsOf_18 : decode cX1_pinsOf 18 = .ok (.aload_n 0, 1) := by decide +kernel
theorem dX1_pinsOf_19 : decode cX1_pinsOf 19 = .ok (.getfield 24, 3) := by decide +kernel
theorem dX1_pinsOf_22 : decode cX1_pinsOf 22 = .ok (.iload_n 1, 1) := by decide +kernel
theorem dX1_pinsOf_23 : decode cX1_pinsOf 23 = .ok (.iaload, 1) := by decide +kernel
theorem dX1_pinsOf_24 : decode cX1_pinsOf 24 = .ok (.ishl, 1) := by decide +kernel
theorem dX1_pinsOf_25 : decode cX1_pinsOf 25 = .ok (.ior, 1) := by decide +kernel
theorem dX1_pinsOf_26 : decode cX1_pinsOf 26 = .ok (.ireturn, 1) := by decide +kernel
theorem dX2_init_0 : decode cX2_init 0 = .ok (.aload_n 0, 1) := by decide +kernel
theorem dX2_init_1 : decode cX2_init 1 = .ok (.invokespecial 3, 3) := by decide +kernel
theorem dX2_init_4 : decode cX2_init 4 = .ok (.aload_n 0, 1) := by decide +kernel
theorem dX2_init_5 : decode cX2_init 5 = .ok (.bipush 54, 2) := by decide +kernel
theorem dX2_init_7 : decode cX2_init 7 = .ok (.newarray .int, 2) := by decide +kernel
theorem dX2_init_9 : decode cX2_init 9 = .ok (.putfield 9, 3) := by decide +kernel
theorem dX2_init_12 : decode cX2_init 12 = .ok (.aload_n 0, 1) := by decide +kernel
theorem dX2_init_13 : decode cX2_init 13 = .ok (.bipush 54, 2) := by decide +kernel
theorem dX2_init_15 : decode cX2_init 15 = .ok (.newarray .int, 2) := by decide +kernel
theorem dX2_init_17 : decode cX2_init 17 = .ok (.putfield 15, 3) := by decide +kernel
theorem dX2_init_20 : decode cX2_init 20 = .ok (.aload_n 0, 1) := by decide +kernel
theorem dX2_init_21 : decode cX2_init 21 = .ok (.bipush 30, 2) := by decide +kernel
theorem dX2_init_23 : decode cX2_init 23 = .ok (.newarray .boolean, 2) := by decide +kernel
theorem dX2_init_25 : decode cX2_init 25 = .ok (.putfield 18, 3) := by decide +kernel
theorem dX2_init_28 : decode cX2_init 28 = .ok (.aload_n 0, 1) := by decide +kernel
theorem dX2_init_29 : decode cX2_init 29 = .ok (.bipush 24, 2) := by decide +kernel
theorem dX2_init_31 : decode cX2_init 31 = .ok (.newarray .int, 2) := by decide +kernel
theorem dX2_init_33 : decode cX2_init 33 = .ok (.putfield 22, 3) := by decide +kernel
theorem dX2_init_36 : decode cX2_init 36 = .ok (.aload_n 0, 1) := by decide +kernel
theorem dX2_init_37 : decode cX2_init 37 = .ok (.iconst 0, 1) := by decide +kernel
theorem dX2_init_38 : decode cX2_init 38 = .ok (.putfield 25, 3) := by decide +kernel
theorem dX2_init_41 : decode cX2_init 41 = .ok (.aload_n 0, 1) := by decide +kernel
theorem dX2_init_42 : decode cX2_init 42 = .ok (.iconst 0, 1) := by decide +kernel
theorem dX2_init_43 : decode cX2_init 43 = .ok (.putfield 29, 3) := by decide +kernel
theorem dX2_init_46 : decode cX2_init 46 = .ok (.return_, 1) := by decide +kernel
theorem dX2_find_0 : decode cX2_find 0 = .ok (.aload_n 0, 1) := by decide +kernel
theorem dX2_find_1 : decode cX2_find 1 = .ok (.iconst 0, 1) := by decide +kernel
theorem dX2_find_2 : decode cX2_find 2 = .ok (.putfield 25, 3) := by decide +kernel
theorem dX2_find_5 : decode cX2_find 5 = .ok (.iconst 0, 1) := by decide +kernel
theorem dX2_find_6 : decode cX2_find 6 = .ok (.istore_n 2, 1) := by decide +kernel
theorem dX2_find_7 : decode cX2_find 7 = .ok (.iload_n 2, 1) := by decide +kernel
theorem dX2_find_8 : decode cX2_find 8 = .ok (.bipush 24, 2) := by decide +kernel
theorem dX2_find_10 : decode cX2_find 10 = .ok (.if_icmp .ge 52, 3) := by decide +kernel
theorem dX2_find_13 : decode cX2_find 13 = .ok (.aload_n 1, 1) := by decide +kernel
theorem dX2_find_14 : decode cX2_find 14 = .ok (.getfield 33, 3) := by decide +kernel
theorem dX2_find_17 : decode cX2_find 17 = .ok (.iload_n 2, 1) := by decide +kernel
theorem dX2_find_18 : decode cX2_find 18 = .ok (.iaload, 1) := by decide +kernel
theorem dX2_find_19 : decode cX2_find 19 = .ok (.iconst 1, 1) := by decide +kernel
theorem dX2_find_20 : decode cX2_find 20 = .ok (.if_icmp .le 12, 3) := by decide +kernel
theorem dX2_find_23 : decode cX2_find 23 = .ok (.aload_n 0, 1) := by decide +kernel
theorem dX2_find_24 : decode cX2_find 24 = .ok (.iconst 1, 1) := by decide +kernel
theorem dX2_find_25 : decode cX2_find 25 = .ok (.iload_n 2, 1) := by decide +kernel
theorem dX2_find_26 : decode cX2_find 26 = .ok (.invokevirtual 38, 3) := by decide +kernel
theorem dX2_find_29 : decode cX2_find 29 = .ok (.goto 27, 3) := by decide +kernel
theorem dX2_find_32 : decode cX2_find 32 = .ok (.aload_n 1, 1) := by decide +kernel
theorem dX2_find_33 : decode cX2_find 33 = .ok (.getfield 33, 3) := by decide +kernel
theorem dX2_find_36 : decode cX2_find 36 = .ok (.iload_n 2, 1) := by decide +kernel
theorem dX2_find_37 : decode cX2_find 37 = .ok (.iaload, 1) := by decide +kernel
theorem dX2_find_38 : decode cX2_find 38 = .ok (.ifCond .ne 18, 3) := by decide +kernel
theorem dX2_find_41 : decode cX2_find 41 = .ok (.aload_n 1, 1) := by decide +kernel
theorem dX2_find_42 : decode cX2_find 42 = .ok (.getfield 42, 3) := by decide +kernel
theorem dX2_find_45 : decode cX2_find 45 = .ok (.iload_n 2, 1) := by decide +kernel
theorem dX2_find_46 : decode cX2_find 46 = .ok (.iaload, 1) := by decide +kernel
theorem dX2_find_47 : decode cX2_find 47 = .ok (.ifCond .eq 9, 3) := by decide +kernel
theorem dX2_find_50 : decode cX2_find 50 = .ok (.aload_n 0, 1) := by decide +kernel
theorem dX2_find_51 : decode cX2_find 51 = .ok (.iconst 2, 1) := by decide +kernel
theorem dX2_find_52 : decode cX2_find 52 = .ok (.iload_n 2, 1) := by decide +kernel
theorem dX2_find_53 : decode cX2_find 53 = .ok (.invokevirtual 38, 3) := by decide +kernel
theorem dX2_find_56 : decode cX2_find 56 = .ok (.iinc 2 1, 3) := by decide +kernel
theorem dX2_find_59 : decode cX2_find 59 = .ok (.goto (-52), 3) := by decide +kernel
theorem dX2_find_62 : decode cX2_find 62 = .ok (.aload_n 0, 1) := by decide +kernel
theorem dX2_find_63 : decode cX2_find 63 = .ok (.aload_n 0, 1) := by decide +kernel
theorem dX2_find_64 : decode cX2_find 64 = .ok (.getfield 25, 3) := by decide +kernel
theorem dX2_find_67 : decode cX2_find 67 = .ok (.ifCond .le 7, 3) := by decide +kernel
theorem dX2_find_70 : decode cX2_find 70 = .ok (.iconst 1, 1) := by decide +kernel
theorem dX2_find_71 : decode cX2_find 71 = .ok (.goto 4, 3) := by decide +kernel
theorem dX2_find_74 : decode cX2_find 74 = .ok (.iconst 0, 1) := by decide +kernel
theorem dX2_find_75 : decode cX2_find 75 = .ok (.putfield 29, 3) := by decide +kernel
theorem dX2_find_78 : decode cX2_find 78 = .ok (.aload_n 0, 1) := by decide +kernel
theorem dX2_find_79 : decode cX2_find 79 = .ok (.aload_n 1, 1) := by decide +kernel
theorem dX2_find_80 : decode cX2_find 80 = .ok (.invokevirtual 45, 3) := by decide +kernel
theorem dX2_find_83 : decode cX2_find 83 = .ok (.iconst 0, 1) := by decide +kernel
theorem dX2_find_84 : decode cX2_find 84 = .ok (.istore_n 2, 1) := by decide +kernel
theorem dX2_find_85 : decode cX2_find 85 = .ok (.iload_n 2, 1) := by decide +kernel
theorem dX2_find_86 : decode cX2_find 86 = .ok (.aload_n 1, 1) := by decide +kernel
theorem dX2_find_87 : decode cX2_find 87 = .ok (.getfield 49, 3) := by decide +kernel
theorem dX2_find_90 : decode cX2_find 90 = .ok (.if_icmp .ge 62, 3) := by decide +kernel
theorem dX2_find_93 : decode cX2_find 93 = .ok (.aload_n 0, 1) := by decide +kernel
theorem dX2_find_94 : decode cX2_find 94 = .ok (.getfield 18, 3) := by decide +kernel
theorem dX2_find_97 : decode cX2_find 97 = .ok (.iload_n 2, 1) := by decide +kernel
theorem dX2_find_98 : decode cX2_find 98 = .ok (.aload_n 1, 1) := by decide +kernel
theorem dX2_find_99 : decode cX2_find 99 = .ok (.iload_n 2, 1) := by decide +kernel
theorem dX2_find_100 : decode cX2_find 100 = .ok (.invokevirtual 50, 3) := by decide +kernel
theorem dX2_find_103 : decode cX2_find 103 = .ok (.ifCond .eq 26, 3) := by decide +kernel
theorem dX2_find_106 : decode cX2_find 106 = .ok (.aload_n 0, 1) := by decide +kernel
theorem dX2_find_107 : decode cX2_find 107 = .ok (.aload_n 1, 1) := by decide +kernel
theorem dX2_find_108 : decode cX2_find 108 = .ok (.getfield 54, 3) := by decide +kernel
theorem dX2_find_111 : decode cX2_find 111 = .ok (.iload_n 2, 1) := by decide +kernel
theorem dX2_find_112 : decode cX2_find 112 = .ok (.iaload, 1) := by decide +kernel
theorem dX2_find_113 : decode cX2_find 113 = .ok (.invokevirtual 57, 3) := by decide +kernel
theorem dX2_find_116 : decode cX2_find 116 = .ok (.aload_n 1, 1) := by decide +kernel
theorem dX2_find_117 : decode cX2_find 117 = .ok (.iload_n 2, 1) := by decide +kernel
theorem dX2_find_118 : decode cX2_find 118 = .ok (.invokevirtual 61, 3) := by decide +kernel
theorem dX2_find_121 : decode cX2_find 121 = .ok (.iand, 1) := by decide +kernel
theorem dX2_find_122 : decode cX2_find 122 = .ok (.ifCond .eq 7, 3) := by decide +kernel
theorem dX2_find_125 : decode cX2_find 125 = .ok (.iconst 1, 1) := by decide +kernel
theorem dX2_find_126 : decode cX2_find 126 = .ok (.goto 4, 3) := by decide +kernel
theorem dX2_find_129 : decode cX2_find 129 = .ok (.iconst 0, 1) := by decide +kernel
theorem dX2_find_130 : decode cX2_find 130 = .ok (.bastore, 1) := by decide +kernel
theorem dX2_find_131 : decode cX2_find 131 = .ok (.aload_n 0, 1) := by decide +kernel
theorem dX2_find_132 : decode cX2_find 132 = .ok (.getfield 18, 3) := by decide +kernel
theorem dX2_find_135 : decode cX2_find 135 = .ok (.iload_n 2, 1) := by decide +kernel
theorem dX2_find_136 : decode cX2_find 136 = .ok (.baload, 1) := by decide +kernel
theorem dX2_find_137 : decode cX2_find 137 = .ok (.ifCond .eq 9, 3) := by decide +kernel
theorem dX2_find_140 : decode cX2_find 140 = .ok (.aload_n 0, 1) := by decide +kernel
theorem dX2_find_141 : decode cX2_find 141 = .ok (.iconst 3, 1) := by decide +kernel
theorem dX2_find_142 : decode cX2_find 142 = .ok (.iload_n 2, 1) := by decide +kernel
theorem dX2_find_143 : decode cX2_find 143 = .ok (.invokevirtual 38, 3) := by decide +kernel
theorem dX2_find_146 : decode cX2_find 146 = .ok (.iinc 2 1, 3) := by decide +kernel
theorem dX2_find_149 : decode cX2_find 149 = .ok (.goto (-64), 3) := by decide +kernel
theorem dX2_find_152 : decode cX2_find 152 = .ok (.return_, 1) := by decide +kernel
theorem dX2_note_0 : decode cX2_note 0 = .ok (.aload_n 0, 1) := by decide +kernel
theorem dX2_note_1 : decode cX2_note 1 = .ok (.getfield 25, 3) := by decide +kernel
theorem dX2_note_4 : decode cX2_note 4 = .ok (.bipush 54, 2) := by decide +kernel
theorem dX2_note_6 : decode cX2_note 6 = .ok (.if_icmp .ge 33, 3) := by decide +kernel
theorem dX2_note_9 : decode cX2_note 9 = .ok (.aload_n 0, 1) := by decide +kernel
theorem dX2_note_10 : decode cX2_note 10 = .ok (.getfield 9, 3) := by decide +kernel
theorem dX2_note_13 : decode cX2_note 13 = .ok (.aload_n 0, 1) := by decide +kernel
theorem dX2_note_14 : decode cX2_note 14 = .ok (.getfield 25, 3) := by decide +kernel
theorem dX2_note_17 : decode cX2_note 17 = .ok (.iload_n 1, 1) := by decide +kernel
theorem dX2_note_18 : decode cX2_note 18 = .ok (.iastore, 1) := by decide +kernel
theorem dX2_note_19 : decode cX2_note 19 = .ok (.aload_n 0, 1) := by decide +kernel
theorem dX2_note_20 : decode cX2_note 20 = .ok (.getfield 15, 3) := by decide +kernel
theorem dX2_note_23 : decode cX2_note 23 = .ok (.aload_n 0, 1) := by decide +kernel
theorem dX2_note_24 : decode cX2_note 24 = .ok (.getfield 25, 3) := by decide +kernel
theorem dX2_note_27 : decode cX2_note 27 = .ok (.iload_n 2, 1) := by decide +kernel
theorem dX2_note_28 : decode cX2_note 28 = .ok (.iastore, 1) := by decide +kernel
theorem dX2_note_29 : decode cX2_note 29 = .ok (.aload_n 0, 1) := by decide +kernel
theorem dX2_note_30 : decode cX2_note 30 = .ok (.dup, 1) := by decide +kernel
theorem dX2_note_31 : decode cX2_note 31 = .ok (.getfield 25, 3) := by decide +kernel
theorem dX2_note_34 : decode cX2_note 34 = .ok (.iconst 1, 1) := by decide +kernel
theorem dX2_note_35 : decode cX2_note 35 = .ok (.iadd, 1) := by decide +kernel
theorem dX2_note_36 : decode cX2_note 36 = .ok (.putfield 25, 3) := by decide +kernel
theorem dX2_note_39 : decode cX2_note 39 = .ok (.return_, 1) := by decide +kernel
theorem dX2_findReach_0 : decode cX2_findReach 0 = .ok (.iconst 0, 1) := by decide +kernel
theorem dX2_findReach_1 : decode cX2_findReach 1 = .ok (.istore_n 2, 1) := by decide +kernel
theorem dX2_findReach_2 : decode cX2_findReach 2 = .ok (.iload_n 2, 1) := by decide +kernel
theorem dX2_findReach_3 : decode cX2_findReach 3 = .ok (.bipush 24, 2) := by decide +kernel
theorem dX2_findReach_5 : decode cX2_findReach 5 = .ok (.if_icmp .ge 68, 3) := by decide +kernel
theorem dX2_findReach_8 : decode cX2_findReach 8 = .ok (.aload_n 0, 1) := by decide +kernel
theorem dX2_findReach_9 : decode cX2_findReach 9 = .ok (.getfield 22, 3) := by decide +kernel
theorem dX2_findReach_12 : decode cX2_findReach 12 = .ok (.iload_n 2, 1) := by decide +kernel
theorem dX2_findReach_13 : decode cX2_findReach 13 = .ok (.iconst 1, 1) := by decide +kernel
theorem dX2_findReach_14 : decode cX2_findReach 14 = .ok (.iload_n 2, 1) := by decide +kernel
theorem dX2_findReach_15 : decode cX2_findReach 15 = .ok (.ishl, 1) := by decide +kernel
theorem dX2_findReach_16 : decode cX2_findReach 16 = .ok (.iastore, 1) := by decide +kernel
theorem dX2_findReach_17 : decode cX2_findReach 17 = .ok (.iconst 0, 1) := by decide +kernel
theorem dX2_findReach_18 : decode cX2_findReach 18 = .ok (.istore_n 3, 1) := by decide +kernel
theorem dX2_findReach_19 : decode cX2_findReach 19 = .ok (.iload_n 3, 1) := by decide +kernel
theorem dX2_findReach_20 : decode cX2_findReach 20 = .ok (.aload_n 1, 1) := by decide +kernel
theorem dX2_findReach_21 : decode cX2_findReach 21 = .ok (.getfield 49, 3) := by decide +kernel
theorem dX2_findReach_24 : decode cX2_findReach 24 = .ok (.if_icmp .ge 43, 3) := by decide +kernel
theorem dX2_findReach_27 : decode cX2_findReach 27 = .ok (.aload_n 1, 1) := by decide +kernel
theorem dX2_findReach_28 : decode cX2_findReach 28 = .ok (.iload_n 3, 1) := by decide +kernel
theorem dX2_findReach_29 : decode cX2_findReach 29 = .ok (.invokevirtual 50, 3) := by decide +kernel
theorem dX2_findReach_32 : decode cX2_findReach 32 = .ok (.ifCond .eq 29, 3) := by decide +kernel
theorem dX2_findReach_35 : decode cX2_findReach 35 = .ok (.aload_n 1, 1) := by decide +kernel
theorem dX2_findReach_36 : decode cX2_findReach 36 = .ok (.iload_n 2, 1) := by decide +kernel
theorem dX2_findReach_37 : decode cX2_findReach 37 = .ok (.iload_n 3, 1) := by decide +kernel
theorem dX2_findReach_38 : decode cX2_findReach 38 = .ok (.invokevirtual 64, 3) := by decide +kernel
theorem dX2_findReach_41 : decode cX2_findReach 41 = .ok (.ifCond .eq 20, 3) := by decide +kernel
theorem dX2_findReach_44 : decode cX2_findReach 44 = .ok (.aload_n 0, 1) := by decide +kernel
theorem dX2_findReach_45 : decode cX2_findReach 45 = .ok (.getfield 22, 3) := by decide +kernel
theorem dX2_findReach_48 : decode cX2_findReach 48 = .ok (.iload_n 2, 1) := by decide +kernel
theorem dX2_findReach_49 : decode cX2_findReach 49 = .ok (.dup2, 1) := by decide +kernel
theorem dX2_findReach_50 : decode cX2_findReach 50 = .ok (.iaload, 1) := by decide +kernel
theorem dX2_findReach_51 : decode cX2_findReach 51 = .ok (.iconst 1, 1) := by decide +kernel
theorem dX2_findReach_52 : decode cX2_findReach 52 = .ok (.aload_n 1, 1) := by decide +kernel
theorem dX2_findReach_53 : decode cX2_findReach 53 = .ok (.getfield 54, 3) := by decide +kernel
theorem dX2_findReach_56 : decode cX2_findReach 56 = .ok (.iload_n 3, 1) := by decide +kernel
theorem dX2_findReach_57 : decode cX2_findReach 57 = .ok (.iaload, 1) := by decide +kernel
theorem dX2_findReach_58 : decode cX2_findReach 58 = .ok (.ishl, 1) := by decide +kernel
theorem dX2_findReach_59 : decode cX2_findReach 59 = .ok (.ior, 1) := by decide +kernel
theorem dX2_findReach_60 : decode cX2_findReach 60 = .ok (.iastore, 1) := by decide +kernel
theorem dX2_findReach_61 : decode cX2_findReach 61 = .ok (.iinc 3 1, 3) := by decide +kernel
theorem dX2_findReach_64 : decode cX2_findReach 64 = .ok (.goto (-45), 3) := by decide +kernel
theorem dX2_findReach_67 : decode cX2_findReach 67 = .ok (.iinc 2 1, 3) := by decide +kernel
theorem dX2_findReach_70 : decode cX2_findReach 70 = .ok (.goto (-68), 3) := by decide +kernel
theorem dX2_findReach_73 : decode cX2_findReach 73 = .ok (.iconst 0, 1) := by decide +kernel
theorem dX2_findReach_74 : decode cX2_findReach 74 = .ok (.istore_n 2, 1) := by decide +kernel
theorem dX2_findReach_75 : decode cX2_findReach 75 = .ok (.iload_n 2, 1) := by decide +kernel
theorem dX2_findReach_76 : decode cX2_findReach 76 = .ok (.bipush 24, 2) := by decide +kernel
theorem dX2_findReach_78 : decode cX2_findReach 78 = .ok (.if_icmp .ge 51, 3) := by decide +kernel
theorem dX2_findReach_81 : decode cX2_findReach 81 = .ok (.iconst 0, 1) := by decide +kernel
theorem dX2_findReach_82 : decode cX2_findReach 82 = .ok (.istore_n 3, 1) := by decide +kernel
theorem dX2_findReach_83 : decode cX2_findReach 83 = .ok (.iload_n 3, 1) := by decide +kernel
theorem dX2_findReach_84 : decode cX2_findReach 84 = .ok (.bipush 24, 2) := by decide +kernel
theorem dX2_findReach_86 : decode cX2_findReach 86 = .ok (.if_icmp .ge 37, 3) := by decide +kernel
theorem dX2_findReach_89 : decode cX2_findReach 89 = .ok (.aload_n 0, 1) := by decide +kernel
theorem dX2_findReach_90 : decode cX2_findReach 90 = .ok (.getfield 22, 3) := by decide +kernel
theorem dX2_findReach_93 : decode cX2_findReach 93 = .ok (.iload_n 3, 1) := by decide +kernel
theorem dX2_findReach_94 : decode cX2_findReach 94 = .ok (.iaload, 1) := by decide +kernel
theorem dX2_findReach_95 : decode cX2_findReach 95 = .ok (.iconst 1, 1) := by decide +kernel
theorem dX2_findReach_96 : decode cX2_findReach 96 = .ok (.iload_n 2, 1) := by decide +kernel
theorem dX2_findReach_97 : decode cX2_findReach 97 = .ok (.ishl, 1) := by decide +kernel
theorem dX2_findReach_98 : decode cX2_findReach 98 = .ok (.iand, 1) := by decide +kernel
theorem dX2_findReach_99 : decode cX2_findReach 99 = .ok (.ifCond .eq 18, 3) := by decide +kernel
theorem dX2_findReach_102 : decode cX2_findReach 102 = .ok (.aload_n 0, 1) := by decide +kernel
theorem dX2_findReach_103 : decode cX2_findReach 103 = .ok (.getfield 22, 3) := by decide +kernel
theorem dX2_findReach_106 : decode cX2_findReach 106 = .ok (.iload_n 3, 1) := by decide +kernel
theorem dX2_findReach_107 : decode cX2_findReach 107 = .ok (.dup2, 1) := by decide +kernel
theorem dX2_findReach_108 : decode cX2_findReach 108 = .ok (.iaload, 1) := by decide +kernel
theorem dX2_findReach_109 : decode cX2_findReach 109 = .ok (.aload_n 0, 1) := by decide +kernel
theorem dX2_findReach_110 : decode cX2_findReach 110 = .ok (.getfield 22, 3) := by decide +kernel
theorem dX2_findReach_113 : decode cX2_findReach 113 = .ok (.iload_n 2, 1) := by decide +kernel
theorem dX2_findReach_114 : decode cX2_findReach 114 = .ok (.iaload, 1) := by decide +kernel
theorem dX2_findReach_115 : decode cX2_findReach 115 = .ok (.ior, 1) := by decide +kernel
theorem dX2_findReach_116 : decode cX2_findReach 116 = .ok (.iastore, 1) := by decide +kernel
theorem dX2_findReach_117 : decode cX2_findReach 117 = .ok (.iinc 3 1, 3) := by decide +kernel
theorem dX2_findReach_120 : decode cX2_findReach 120 = .ok (.goto (-37), 3) := by decide +kernel
theorem dX2_findReach_123 : decode cX2_findReach 123 = .ok (.iinc 2 1, 3) := by decide +kernel
theorem dX2_findReach_126 : decode cX2_findReach 126 = .ok (.goto (-51), 3) := by decide +kernel
theorem dX2_findReach_129 : decode cX2_findReach 129 = .ok (.return_, 1) := by decide +kernel
theorem dX2_reachOf_0 : decode cX2_reachOf 0 = .ok (.iload_n 1, 1) := by decide +kernel
theorem dX2_reachOf_1 : decode cX2_reachOf 1 = .ok (.invokestatic 68, 3) := by decide +kernel
theorem dX2_reachOf_4 : decode cX2_reachOf 4 = .ok (.ifCond .eq 12, 3) := by decide +kernel
theorem dX2_reachOf_7 : decode cX2_reachOf 7 = .ok (.aload_n 0, 1) := by decide +kernel
theorem dX2_reachOf_8 : decode cX2_reachOf 8 = .ok (.getfield 22, 3) := by decide +kernel
theorem dX2_reachOf_11 : decode cX2_reachOf 11 = .ok (.iload_n 1, 1) := by decide +kernel
theorem dX2_reachOf_12 : decode cX2_reachOf 12 = .ok (.iaload, 1) := by decide +kernel
theorem dX2_reachOf_13 : decode cX2_reachOf 13 = .ok (.goto 4, 3) := by decide +kernel
theorem dX2_reachOf_16 : decode cX2_reachOf 16 = .ok (.iconst 0, 1) := by decide +kernel
theorem dX2_reachOf_17 : decode cX2_reachOf 17 = .ok (.ireturn, 1) := by decide +kernel
theorem dX3_init_0 : decode cX3_init 0 = .ok (.aload_n 0, 1) := by decide +kernel
theorem dX3_init_1 : decode cX3_init 1 = .ok (.invokespecial 3, 3) := by decide +kernel
theorem dX3_init_4 : decode cX3_init 4 = .ok (.aload_n 0, 1) := by decide +kernel
theorem dX3_init_5 : decode cX3_init 5 = .ok (.bipush 24, 2) := by decide +kernel
theorem dX3_init_7 : decode cX3_init 7 = .ok (.newarray .int, 2) := by decide +kernel
theorem dX3_init_9 : decode cX3_init 9 = .ok (.putfield 9, 3) := by decide +kernel
theorem dX3_init_12 : decode cX3_init 12 = .ok (.aload_n 0, 1) := by decide +kernel
theorem dX3_init_13 : decode cX3_init 13 = .ok (.bipush 24, 2) := by decide +kernel
theorem dX3_init_15 : decode cX3_init 15 = .ok (.newarray .int, 2) := by decide +kernel
theorem dX3_init_17 : decode cX3_init 17 = .ok (.putfield 15, 3) := by decide +kernel
theorem dX3_init_20 : decode cX3_init 20 = .ok (.aload_n 0, 1) := by decide +kernel
theorem dX3_init_21 : decode cX3_init 21 = .ok (.bipush 24, 2) := by decide +kernel
theorem dX3_init_23 : decode cX3_init 23 = .ok (.newarray .int, 2) := by decide +kernel
theorem dX3_init_25 : decode cX3_init 25 = .ok (.putfield 18, 3) := by decide +kernel
theorem dX3_init_28 : decode cX3_init 28 = .ok (.aload_n 0, 1) := by decide +kernel
theorem dX3_init_29 : decode cX3_init 29 = .ok (.bipush 24, 2) := by decide +kernel
theorem dX3_init_31 : decode cX3_init 31 = .ok (.newarray .int, 2) := by decide +kernel
theorem dX3_init_33 : decode cX3_init 33 = .ok (.putfield 21, 3) := by decide +kernel
theorem dX3_init_36 : decode cX3_init 36 = .ok (.aload_n 0, 1) := by decide +kernel
theorem dX3_init_37 : decode cX3_init 37 = .ok (.bipush 30, 2) := by decide +kernel
theorem dX3_init_39 : decode cX3_init 39 = .ok (.newarray .int, 2) := by decide +kernel
theorem dX3_init_41 : decode cX3_init 41 = .ok (.putfield 24, 3) := by decide +kernel
theorem dX3_init_44 : decode cX3_init 44 = .ok (.aload_n 0, 1) := by decide +kernel
theorem dX3_init_45 : decode cX3_init 45 = .ok (.bipush 30, 2) := by decide +kernel
theorem dX3_init_47 : decode cX3_init 47 = .ok (.newarray .int, 2) := by decide +kernel
theorem dX3_init_49 : decode cX3_init 49 = .ok (.putfield 27, 3) := by decide +kernel
theorem dX3_init_52 : decode cX3_init 52 = .ok (.aload_n 0, 1) := by decide +kernel
theorem dX3_init_53 : decode cX3_init 53 = .ok (.bipush 30, 2) := by decide +kernel
theorem dX3_init_55 : decode cX3_init 55 = .ok (.newarray .int, 2) := by decide +kernel
theorem dX3_init_57 : decode cX3_init 57 = .ok (.putfield 30, 3) := by decide +kernel
theorem dX3_init_60 : decode cX3_init 60 = .ok (.aload_n 0, 1) := by decide +kernel
theorem dX3_init_61 : decode cX3_init 61 = .ok (.bipush 30, 2) := by decide +kernel
theorem dX3_init_63 : decode cX3_init 63 = .ok (.newarray .int, 2) := by decide +kernel
theorem dX3_init_65 : decode cX3_init 65 = .ok (.putfield 33, 3) := by decide +kernel
theorem dX3_init_68 : decode cX3_init 68 = .ok (.aload_n 0, 1) := by decide +kernel
theorem dX3_init_69 : decode cX3_init 69 = .ok (.bipush 40, 2) := by decide +kernel
theorem dX3_init_71 : decode cX3_init 71 = .ok (.newarray .int, 2) := by decide +kernel
theorem dX3_init_73 : decode cX3_init 73 = .ok (.putfield 36, 3) := by decide +kernel
theorem dX3_init_76 : decode cX3_init 76 = .ok (.aload_n 0, 1) := by decide +kernel
theorem dX3_init_77 : decode cX3_init 77 = .ok (.bipush 40, 2) := by decide +kernel
theorem dX3_init_79 : decode cX3_init 79 = .ok (.newarray .int, 2) := by decide +kernel
theorem dX3_init_81 : decode cX3_init 81 = .ok (.putfield 39, 3) := by decide +kernel
theorem dX3_init_84 : decode cX3_init 84 = .ok (.aload_n 0, 1) := by decide +kernel
theorem dX3_init_85 : decode cX3_init 85 = .ok (.bipush 40, 2) := by decide +kernel
theorem dX3_init_87 : decode cX3_init 87 = .ok (.newarray .int, 2) := by decide +kernel
theorem dX3_init_89 : decode cX3_init 89 = .ok (.putfield 42, 3) := by decide +kernel
theorem dX3_init_92 : decode cX3_init 92 = .ok (.aload_n 0, 1) := by decide +kernel
theorem dX3_init_93 : decode cX3_init 93 = .ok (.aload_n 1, 1) := by decide +kernel
theorem dX3_init_94 : decode cX3_init 94 = .ok (.putfield 45, 3) := by decide +kernel
theorem dX3_init_97 : decode cX3_init 97 = .ok (.aload_n 0, 1) := by decide +kernel
theorem dX3_init_98 : decode cX3_init 98 = .ok (.invokevirtual 49, 3) := by decide +kernel
theorem dX3_init_101 : decode cX3_init 101 = .ok (.return_, 1) := by decide +kernel
theorem dX3_clear_0 : decode cX3_clear 0 = .ok (.aload_n 0, 1) := by decide +kernel
theorem dX3_clear_1 : decode cX3_clear 1 = .ok (.getfield 9, 3) := by decide +kernel
theorem dX3_clear_4 : decode cX3_clear 4 = .ok (.iconst 2, 1) := by decide +kernel
theorem dX3_clear_5 : decode cX3_clear 5 = .ok (.invokestatic 52, 3) := by decide +kernel
theorem dX3_clear_8 : decode cX3_clear 8 = .ok (.aload_n 0, 1) := by decide +kernel
theorem dX3_clear_9 : decode cX3_clear 9 = .ok (.getfield 15, 3) := by decide +kernel
theorem dX3_clear_12 : decode cX3_clear 12 = .ok (.iconst (-1), 1) := by decide +kernel
theorem dX3_clear_13 : decode cX3_clear 13 = .ok (.invokestatic 52, 3) := by decide +kernel
theorem dX3_clear_16 : decode cX3_clear 16 = .ok (.aload_n 0, 1) := by decide +kernel
theorem dX3_clear_17 : decode cX3_clear 17 = .ok (.getfield 33, 3) := by decide +kernel
theorem dX3_clear_20 : decode cX3_clear 20 = .ok (.iconst (-1), 1) := by decide +kernel
theorem dX3_clear_21 : decode cX3_clear 21 = .ok (.invokestatic 52, 3) := by decide +kernel
theorem dX3_clear_24 : decode cX3_clear 24 = .ok (.aload_n 0, 1) := by decide +kernel
theorem dX3_clear_25 : decode cX3_clear 25 = .ok (.invokevirtual 58, 3) := by decide +kernel
theorem dX3_clear_28 : decode cX3_clear 28 = .ok (.aload_n 0, 1) := by decide +kernel
theorem dX3_clear_29 : decode cX3_clear 29 = .ok (.invokevirtual 61, 3) := by decide +kernel
theorem dX3_clear_32 : decode cX3_clear 32 = .ok (.aload_n 0, 1) := by decide +kernel
theorem dX3_clear_33 : decode cX3_clear 33 = .ok (.iconst 0, 1) := by decide +kernel
theorem dX3_clear_34 : decode cX3_clear 34 = .ok (.putfield 64, 3) := by decide +kernel
theorem dX3_clear_37 : decode cX3_clear 37 = .ok (.aload_n 0, 1) := by decide +kernel
theorem dX3_clear_38 : decode cX3_clear 38 = .ok (.iconst 0, 1) := by decide +kernel
theorem dX3_clear_39 : decode cX3_clear 39 = .ok (.putfield 68, 3) := by decide +kernel
theorem dX3_clear_42 : decode cX3_clear 42 = .ok (.aload_n 0, 1) := by decide +kernel
theorem dX3_clear_43 : decode cX3_clear 43 = .ok (.iconst 0, 1) := by decide +kernel
theorem dX3_clear_44 : decode cX3_clear 44 = .ok (.putfield 71, 3) := by decide +kernel
theorem dX3_clear_47 : decode cX3_clear 47 = .ok (.aload_n 0, 1) := by decide +kernel
theorem dX3_clear_48 : decode cX3_clear 48 = .ok (.iconst 0, 1) := by decide +kernel
theorem dX3_clear_49 : decode cX3_clear 49 = .ok (.putfield 74, 3) := by decide +kernel
theorem dX3_clear_52 : decode cX3_clear 52 = .ok (.aload_n 0, 1) := by decide +kernel
theorem dX3_clear_53 : decode cX3_clear 53 = .ok (.iconst 0, 1) := by decide +kernel
theorem dX3_clear_54 : decode cX3_clear 54 = .ok (.putfield 77, 3) := by decide +kernel
theorem dX3_clear_57 : decode cX3_clear 57 = .ok (.aload_n 0, 1) := by decide +kernel
theorem dX3_clear_58 : decode cX3_clear 58 = .ok (.iconst 0, 1) := by decide +kernel
theorem dX3_clear_59 : decode cX3_clear 59 = .ok (.putfield 80, 3) := by decide +kernel
theorem dX3_clear_62 : decode cX3_clear 62 = .ok (.return_, 1) := by decide +kernel
theorem dX3_copyFrom_0 : decode cX3_copyFrom 0 = .ok (.aload_n 1, 1) := by decide +kernel
theorem dX3_copyFrom_1 : decode cX3_copyFrom 1 = .ok (.getfield 9, 3) := by decide +kernel
theorem dX3_copyFrom_4 : decode cX3_copyFrom 4 = .ok (.iconst 0, 1) := by decide +kernel
theorem dX3_copyFrom_5 : decode cX3_copyFrom 5 = .ok (.aload_n 0, 1) := by decide +kernel
theorem dX3_copyFrom_6 : decode cX3_copyFrom 6 = .ok (.getfield 9, 3) := by decide +kernel
theorem dX3_copyFrom_9 : decode cX3_copyFrom 9 = .ok (.iconst 0, 1) := by decide +kernel
theorem dX3_copyFrom_10 : decode cX3_copyFrom 10 = .ok (.bipush 24, 2) := by decide +kernel
theorem dX3_copyFrom_12 : decode cX3_copyFrom 12 = .ok (.invokestatic 83, 3) := by decide +kernel
theorem dX3_copyFrom_15 : decode cX3_copyFrom 15 = .ok (.aload_n 1, 1) := by decide +kernel
theorem dX3_copyFrom_16 : decode cX3_copyFrom 16 = .ok (.getfield 15, 3) := by decide +kernel
theorem dX3_copyFrom_19 : decode cX3_copyFrom 19 = .ok (.iconst 0, 1) := by decide +kernel
theorem dX3_copyFrom_20 : decode cX3_copyFrom 20 = .ok (.aload_n 0, 1) := by decide +kernel
theorem dX3_copyFrom_21 : decode cX3_copyFrom 21 = .ok (.getfield 15, 3) := by decide +kernel
theorem dX3_copyFrom_24 : decode cX3_copyFrom 24 = .ok (.iconst 0, 1) := by decide +kernel
theorem dX3_copyFrom_25 : decode cX3_copyFrom 25 = .ok (.bipush 24, 2) := by decide +kernel
theorem dX3_copyFrom_27 : decode cX3_copyFrom 27 = .ok (.invokestatic 83, 3) := by decide +kernel
theorem dX3_copyFrom_30 : decode cX3_copyFrom 30 = .ok (.aload_n 1, 1) := by decide +kernel
theorem dX3_copyFrom_31 : decode cX3_copyFrom 31 = .ok (.getfield 18, 3) := by decide +kernel
theorem dX3_copyFrom_34 : decode cX3_copyFrom 34 = .ok (.iconst 0, 1) := by decide +kernel
theorem dX3_copyFrom_35 : decode cX3_copyFrom 35 = .ok (.aload_n 0, 1) := by decide +kernel
theorem dX3_copyFrom_36 : decode cX3_copyFrom 36 = .ok (.getfield 18, 3) := by decide +kernel
theorem dX3_copyFrom_39 : decode cX3_copyFrom 39 = .ok (.iconst 0, 1) := by decide +kernel
theorem dX3_copyFrom_40 : decode cX3_copyFrom 40 = .ok (.bipush 24, 2) := by decide +kernel
theorem dX3_copyFrom_42 : decode cX3_copyFrom 42 = .ok (.invokestatic 83, 3) := by decide +kernel
theorem dX3_copyFrom_45 : decode cX3_copyFrom 45 = .ok (.aload_n 1, 1) := by decide +kernel
theorem dX3_copyFrom_46 : decode cX3_copyFrom 46 = .ok (.getfield 21, 3) := by decide +kernel
theorem dX3_copyFrom_49 : decode cX3_copyFrom 49 = .ok (.iconst 0, 1) := by decide +kernel
theorem dX3_copyFrom_50 : decode cX3_copyFrom 50 = .ok (.aload_n 0, 1) := by decide +kernel
theorem dX3_copyFrom_51 : decode cX3_copyFrom 51 = .ok (.getfield 21, 3) := by decide +kernel
theorem dX3_copyFrom_54 : decode cX3_copyFrom 54 = .ok (.iconst 0, 1) := by decide +kernel
theorem dX3_copyFrom_55 : decode cX3_copyFrom 55 = .ok (.bipush 24, 2) := by decide +kernel
theorem dX3_copyFrom_57 : decode cX3_copyFrom 57 = .ok (.invokestatic 83, 3) := by decide +kernel
theorem dX3_copyFrom_60 : decode cX3_copyFrom 60 = .ok (.aload_n 1, 1) := by decide +kernel
theorem dX3_copyFrom_61 : decode cX3_copyFrom 61 = .ok (.getfield 24, 3) := by decide +kernel
theorem dX3_copyFrom_64 : decode cX3_copyFrom 64 = .ok (.iconst 0, 1) := by decide +kernel
theorem dX3_copyFrom_65 : decode cX3_copyFrom 65 = .ok (.aload_n 0, 1) := by decide +kernel
theorem dX3_copyFrom_66 : decode cX3_copyFrom 66 = .ok (.getfield 24, 3) := by decide +kernel
theorem dX3_copyFrom_69 : decode cX3_copyFrom 69 = .ok (.iconst 0, 1) := by decide +kernel
theorem dX3_copyFrom_70 : decode cX3_copyFrom 70 = .ok (.bipush 30, 2) := by decide +kernel
theorem dX3_copyFrom_72 : decode cX3_copyFrom 72 = .ok (.invokestatic 83, 3) := by decide +kernel
theorem dX3_copyFrom_75 : decode cX3_copyFrom 75 = .ok (.aload_n 1, 1) := by decide +kernel
theorem dX3_copyFrom_76 : decode cX3_copyFrom 76 = .ok (.getfield 27, 3) := by decide +kernel
theorem dX3_copyFrom_79 : decode cX3_copyFrom 79 = .ok (.iconst 0, 1) := by decide +kernel
theorem dX3_copyFrom_80 : decode cX3_copyFrom 80 = .ok (.aload_n 0, 1) := by decide +kernel
theorem dX3_copyFrom_81 : decode cX3_copyFrom 81 = .ok (.getfield 27, 3) := by decide +kernel
theorem dX3_copyFrom_84 : decode cX3_copyFrom 84 = .ok (.iconst 0, 1) := by decide +kernel
theorem dX3_copyFrom_85 : decode cX3_copyFrom 85 = .ok (.bipush 30, 2) := by decide +kernel
theorem dX3_copyFrom_87 : decode cX3_copyFrom 87 = .ok (.invokestatic 83, 3) := by decide +kernel
theorem dX3_copyFrom_90 : decode cX3_copyFrom 90 = .ok (.aload_n 1, 1) := by decide +kernel
theorem dX3_copyFrom_91 : decode cX3_copyFrom 91 = .ok (.getfield 30, 3) := by decide +kernel
theorem dX3_copyFrom_94 : decode cX3_copyFrom 94 = .ok (.iconst 0, 1) := by decide +kernel
theorem dX3_copyFrom_95 : decode cX3_copyFrom 95 = .ok (.aload_n 0, 1) := by decide +kernel
theorem dX3_copyFrom_96 : decode cX3_copyFrom 96 = .ok (.getfield 30, 3) := by decide +kernel
theorem dX3_copyFrom_99 : decode cX3_copyFrom 99 = .ok (.iconst 0, 1) := by decide +kernel
theorem dX3_copyFrom_100 : decode cX3_copyFrom 100 = .ok (.bipush 30, 2) := by decide +kernel
theorem dX3_copyFrom_102 : decode cX3_copyFrom 102 = .ok (.invokestatic 83, 3) := by decide +kernel
theorem dX3_copyFrom_105 : decode cX3_copyFrom 105 = .ok (.aload_n 1, 1) := by decide +kernel
theorem dX3_copyFrom_106 : decode cX3_copyFrom 106 = .ok (.getfield 33, 3) := by decide +kernel
theorem dX3_copyFrom_109 : decode cX3_copyFrom 109 = .ok (.iconst 0, 1) := by decide +kernel
theorem dX3_copyFrom_110 : decode cX3_copyFrom 110 = .ok (.aload_n 0, 1) := by decide +kernel
theorem dX3_copyFrom_111 : decode cX3_copyFrom 111 = .ok (.getfield 33, 3) := by decide +kernel
theorem dX3_copyFrom_114 : decode cX3_copyFrom 114 = .ok (.iconst 0, 1) := by decide +kernel
theorem dX3_copyFrom_115 : decode cX3_copyFrom 115 = .ok (.bipush 30, 2) := by decide +kernel
theorem dX3_copyFrom_117 : decode cX3_copyFrom 117 = .ok (.invokestatic 83, 3) := by decide +kernel
theorem dX3_copyFrom_120 : decode cX3_copyFrom 120 = .ok (.aload_n 1, 1) := by decide +kernel
theorem dX3_copyFrom_121 : decode cX3_copyFrom 121 = .ok (.getfield 36, 3) := by decide +kernel
theorem dX3_copyFrom_124 : decode cX3_copyFrom 124 = .ok (.iconst 0, 1) := by decide +kernel
theorem dX3_copyFrom_125 : decode cX3_copyFrom 125 = .ok (.aload_n 0, 1) := by decide +kernel
theorem dX3_copyFrom_126 : decode cX3_copyFrom 126 = .ok (.getfield 36, 3) := by decide +kernel
theorem dX3_copyFrom_129 : decode cX3_copyFrom 129 = .ok (.iconst 0, 1) := by decide +kernel
theorem dX3_copyFrom_130 : decode cX3_copyFrom 130 = .ok (.bipush 40, 2) := by decide +kernel
theorem dX3_copyFrom_132 : decode cX3_copyFrom 132 = .ok (.invokestatic 83, 3) := by decide +kernel
theorem dX3_copyFrom_135 : decode cX3_copyFrom 135 = .ok (.aload_n 1, 1) := by decide +kernel
theorem dX3_copyFrom_136 : decode cX3_copyFrom 136 = .ok (.getfield 39, 3) := by decide +kernel
theorem dX3_copyFrom_139 : decode cX3_copyFrom 139 = .ok (.iconst 0, 1) := by decide +kernel
theorem dX3_copyFrom_140 : decode cX3_copyFrom 140 = .ok (.aload_n 0, 1) := by decide +kernel
theorem dX3_copyFrom_141 : decode cX3_copyFrom 141 = .ok (.getfield 39, 3) := by decide +kernel
theorem dX3_copyFrom_144 : decode cX3_copyFrom 144 = .ok (.iconst 0, 1) := by decide +kernel
theorem dX3_copyFrom_145 : decode cX3_copyFrom 145 = .ok (.bipush 40, 2) := by decide +kernel
theorem dX3_copyFrom_147 : decode cX3_copyFrom 147 = .ok (.invokestatic 83, 3) := by decide +kernel
theorem dX3_copyFrom_150 : decode cX3_copyFrom 150 = .ok (.aload_n 1, 1) := by decide +kernel
theorem dX3_copyFrom_151 : decode cX3_copyFrom 151 = .ok (.getfield 42, 3) := by decide +kernel
theorem dX3_copyFrom_154 : decode cX3_copyFrom 154 = .ok (.iconst 0, 1) := by decide +kernel
theorem dX3_copyFrom_155 : decode cX3_copyFrom 155 = .ok (.aload_n 0, 1) := by decide +kernel
theorem dX3_copyFrom_156 : decode cX3_copyFrom 156 = .ok (.getfield 42, 3) := by decide +kernel
theorem dX3_copyFrom_159 : decode cX3_copyFrom 159 = .ok (.iconst 0, 1) := by decide +kernel
theorem dX3_copyFrom_160 : decode cX3_copyFrom 160 = .ok (.bipush 40, 2) := by decide +kernel
theorem dX3_copyFrom_162 : decode cX3_copyFrom 162 = .ok (.invokestatic 83, 3) := by decide +kernel
theorem dX3_copyFrom_165 : decode cX3_copyFrom 165 = .ok (.aload_n 0, 1) := by decide +kernel
theorem dX3_copyFrom_166 : decode cX3_copyFrom 166 = .ok (.aload_n 1, 1) := by decide +kernel
theorem dX3_copyFrom_167 : decode cX3_copyFrom 167 = .ok (.getfield 64, 3) := by decide +kernel
theorem dX3_copyFrom_170 : decode cX3_copyFrom 170 = .ok (.putfield 64, 3) := by decide +kernel
theorem dX3_copyFrom_173 : decode cX3_copyFrom 173 = .ok (.aload_n 0, 1) := by decide +kernel
theorem dX3_copyFrom_174 : decode cX3_copyFrom 174 = .ok (.aload_n 1, 1) := by decide +kernel
theorem dX3_copyFrom_175 : decode cX3_copyFrom 175 = .ok (.getfield 68, 3) := by decide +kernel
theorem dX3_copyFrom_178 : decode cX3_copyFrom 178 = .ok (.putfield 68, 3) := by decide +kernel
theorem dX3_copyFrom_181 : decode cX3_copyFrom 181 = .ok (.aload_n 0, 1) := by decide +kernel
theorem dX3_copyFrom_182 : decode cX3_copyFrom 182 = .ok (.aload_n 1, 1) := by decide +kernel
theorem dX3_copyFrom_183 : decode cX3_copyFrom 183 = .ok (.getfield 71, 3) := by decide +kernel
theorem dX3_copyFrom_186 : decode cX3_copyFrom 186 = .ok (.putfield 71, 3) := by decide +kernel
theorem dX3_copyFrom_189 : decode cX3_copyFrom 189 = .ok (.aload_n 0, 1) := by decide +kernel
theorem dX3_copyFrom_190 : decode cX3_copyFrom 190 = .ok (.aload_n 1, 1) := by decide +kernel
theorem dX3_copyFrom_191 : decode cX3_copyFrom 191 = .ok (.getfield 74, 3) := by decide +kernel
theorem dX3_copyFrom_194 : decode cX3_copyFrom 194 = .ok (.putfield 74, 3) := by decide +kernel
theorem dX3_copyFrom_197 : decode cX3_copyFrom 197 = .ok (.aload_n 0, 1) := by decide +kernel
theorem dX3_copyFrom_198 : decode cX3_copyFrom 198 = .ok (.aload_n 1, 1) := by decide +kernel
theorem dX3_copyFrom_199 : decode cX3_copyFrom 199 = .ok (.getfield 77, 3) := by decide +kernel
theorem dX3_copyFrom_202 : decode cX3_copyFrom 202 = .ok (.putfield 77, 3) := by decide +kernel
theorem dX3_copyFrom_205 : decode cX3_copyFrom 205 = .ok (.aload_n 0, 1) := by decide +kernel
theorem dX3_copyFrom_206 : decode cX3_copyFrom 206 = .ok (.aload_n 1, 1) := by decide +kernel
theorem dX3_copyFrom_207 : decode cX3_copyFrom 207 = .ok (.getfield 80, 3) := by decide +kernel
theorem dX3_copyFrom_210 : decode cX3_copyFrom 210 = .ok (.putfield 80, 3) := by decide +kernel
theorem dX3_copyFrom_213 : decode cX3_copyFrom 213 = .ok (.return_, 1) := by decide +kernel
theorem dX3_begin_0 : decode cX3_begin 0 = .ok (.aload_n 0, 1) := by decide +kernel
theorem dX3_begin_1 : decode cX3_begin 1 = .ok (.invokevirtual 49, 3) := by decide +kernel
theorem dX3_begin_4 : decode cX3_begin 4 = .ok (.iconst 0, 1) := by decide +kernel
theorem dX3_begin_5 : decode cX3_begin 5 = .ok (.istore_n 1, 1) := by decide +kernel
theorem dX3_begin_6 : decode cX3_begin 6 = .ok (.iload_n 1, 1) := by decide +kernel
theorem dX3_begin_7 : decode cX3_begin 7 = .ok (.aload_n 0, 1) := by decide +kernel
theorem dX3_begin_8 : decode cX3_begin 8 = .ok (.getfield 45, 3) := by decide +kernel
theorem dX3_begin_11 : decode cX3_begin 11 = .ok (.getfield 89, 3) := by decide +kernel
theorem dX3_begin_14 : decode cX3_begin 14 = .ok (.if_icmp .ge 37, 3) := by decide +kernel
theorem dX3_begin_17 : decode cX3_begin 17 = .ok (.aload_n 0, 1) := by decide +kernel
theorem dX3_begin_18 : decode cX3_begin 18 = .ok (.getfield 45, 3) := by decide +kernel
theorem dX3_begin_21 : decode cX3_begin 21 = .ok (.getfield 94, 3) := by decide +kernel
theorem dX3_begin_24 : decode cX3_begin 24 = .ok (.iload_n 1, 1) := by decide +kernel
theorem dX3_begin_25 : decode cX3_begin 25 = .ok (.iaload, 1) := by decide +kernel
theorem dX3_begin_26 : decode cX3_begin 26 = .ok (.bipush 8, 2) := by decide +kernel
theorem dX3_begin_28 : decode cX3_begin 28 = .ok (.if_icmp .ne 17, 3) := by decide +kernel
theorem dX3_begin_31 : decode cX3_begin 31 = .ok (.aload_n 0, 1) := by decide +kernel
theorem dX3_begin_32 : decode cX3_begin 32 = .ok (.aload_n 0, 1) := by decide +kernel
theorem dX3_begin_33 : decode cX3_begin 33 = .ok (.getfield 45, 3) := by decide +kernel
theorem dX3_begin_36 : decode cX3_begin 36 = .ok (.getfield 97, 3) := by decide +kernel
theorem dX3_begin_39 : decode cX3_begin 39 = .ok (.iload_n 1, 1) := by decide +kernel
theorem dX3_begin_40 : decode cX3_begin 40 = .ok (.iaload, 1) := by decide +kernel
theorem dX3_begin_41 : decode cX3_begin 41 = .ok (.iconst 0, 1) := by decide +kernel
theorem dX3_begin_42 : decode cX3_begin 42 = .ok (.invokevirtual 100, 3) := by decide +kernel
theorem dX3_begin_45 : decode cX3_begin 45 = .ok (.iinc 1 1, 3) := by decide +kernel
theorem dX3_begin_48 : decode cX3_begin 48 = .ok (.goto (-42), 3) := by decide +kernel
theorem dX3_begin_51 : decode cX3_begin 51 = .ok (.return_, 1) := by decide +kernel
theorem dX3_put_0 : decode cX3_put 0 = .ok (.aload_n 0, 1) := by decide +kernel
theorem dX3_put_1 : decode cX3_put 1 = .ok (.invokevirtual 61, 3) := by decide +kernel
theorem dX3_put_4 : decode cX3_put 4 = .ok (.aload_n 0, 1) := by decide +kernel
theorem dX3_put_5 : decode cX3_put 5 = .ok (.iload_n 1, 1) := by decide +kernel
theorem dX3_put_6 : decode cX3_put 6 = .ok (.iload_n 2, 1) := by decide +kernel
theorem dX3_put_7 : decode cX3_put 7 = .ok (.invokevirtual 100, 3) := by decide +kernel
theorem dX3_put_10 : decode cX3_put 10 = .ok (.return_, 1) := by decide +kernel
theorem dX3_comeToRest_0 : decode cX3_comeToRest 0 = .ok (.aload_n 0, 1) := by decide +kernel
theorem dX3_comeToRest_1 : decode cX3_comeToRest 1 = .ok (.ldc 104, 2) := by decide +kernel
theorem dX3_comeToRest_3 : decode cX3_comeToRest 3 = .ok (.invokevirtual 105, 3) := by decide +kernel
theorem dX3_comeToRest_6 : decode cX3_comeToRest 6 = .ok (.istore_n 1, 1) := by decide +kernel
theorem dX3_comeToRest_7 : decode cX3_comeToRest 7 = .ok (.aload_n 0, 1) := by decide +kernel
theorem dX3_comeToRest_8 : decode cX3_comeToRest 8 = .ok (.invokevirtual 109, 3) := by decide +kernel
theorem dX3_comeToRest_11 : decode cX3_comeToRest 11 = .ok (.aload_n 0, 1) := by decide +kernel
theorem dX3_comeToRest_12 : decode cX3_comeToRest 12 = .ok (.invokevirtual 61, 3) := by decide +kernel
theorem dX3_comeToRest_15 : decode cX3_comeToRest 15 = .ok (.iload_n 1, 1) := by decide +kernel
theorem dX3_comeToRest_16 : decode cX3_comeToRest 16 = .ok (.ireturn, 1) := by decide +kernel
theorem dX3_letCome_0 : decode cX3_letCome 0 = .ok (.aload_n 0, 1) := by decide +kernel
theorem dX3_letCome_1 : decode cX3_letCome 1 = .ok (.getfield 80, 3) := by decide +kernel
theorem dX3_letCome_4 : decode cX3_letCome 4 = .ok (.istore_n 2, 1) := by decide +kernel
theorem dX3_letCome_5 : decode cX3_letCome 5 = .ok (.aload_n 0, 1) := by decide +kernel
theorem dX3_letCome_6 : decode cX3_letCome 6 = .ok (.iload_n 1, 1) := by decide +kernel
theorem dX3_letCome_7 : decode cX3_letCome 7 = .ok (.invokevirtual 112, 3) := by decide +kernel
theorem dX3_letCome_10 : decode cX3_letCome 10 = .ok (.istore_n 3, 1) := by decide +kernel
theorem dX3_letCome_11 : decode cX3_letCome 11 = .ok (.iconst 0, 1) := by decide +kernel
theorem dX3_letCome_12 : decode cX3_letCome 12 = .ok (.istore 4, 2) := by decide +kernel
theorem dX3_letCome_14 : decode cX3_letCome 14 = .ok (.iload 4, 2) := by decide +kernel
theorem dX3_letCome_16 : decode cX3_letCome 16 = .ok (.sipush 300, 3) := by decide +kernel
theorem dX3_letCome_19 : decode cX3_letCome 19 = .ok (.if_icmp .ge 60, 3) := by decide +kernel
theorem dX3_letCome_22 : decode cX3_letCome 22 = .ok (.iload_n 3, 1) := by decide +kernel
theorem dX3_letCome_23 : decode cX3_letCome 23 = .ok (.iconst (-1), 1) := by decide +kernel
theorem dX3_letCome_24 : decode cX3_letCome 24 = .ok (.if_icmp .eq 55, 3) := by decide +kernel
theorem dX3_letCome_27 : decode cX3_letCome 27 = .ok (.aload_n 0, 1) := by decide +kernel
theorem dX3_letCome_28 : decode cX3_letCome 28 = .ok (.getfield 24, 3) := by decide +kernel
theorem dX3_letCome_31 : decode cX3_letCome 31 = .ok (.iload_n 3, 1) := by decide +kernel
theorem dX3_letCome_32 : decode cX3_letCome 32 = .ok (.iaload, 1) := by decide +kernel
theorem dX3_letCome_33 : decode cX3_letCome 33 = .ok (.istore 5, 2) := by decide +kernel
theorem dX3_letCome_35 : decode cX3_letCome 35 = .ok (.aload_n 0, 1) := by decide +kernel
theorem dX3_letCome_36 : decode cX3_letCome 36 = .ok (.aload_n 0, 1) := by decide +kernel
theorem dX3_letCome_37 : decode cX3_letCome 37 = .ok (.getfield 27, 3) := by decide +kernel
theorem dX3_letCome_40 : decode cX3_letCome 40 = .ok (.iload_n 3, 1) := by decide +kernel
theorem dX3_letCome_41 : decode cX3_letCome 41 = .ok (.iaload, 1) := by decide +kernel
theorem dX3_letCome_42 : decode cX3_letCome 42 = .ok (.putfield 68, 3) := by decide +kernel
theorem dX3_letCome_45 : decode cX3_letCome 45 = .ok (.aload_n 0, 1) := by decide +kernel
theorem dX3_letCome_46 : decode cX3_letCome 46 = .ok (.getfield 24, 3) := by decide +kernel
theorem dX3_letCome_49 : decode cX3_letCome 49 = .ok (.iload_n 3, 1) := by decide +kernel
theorem dX3_letCome_50 : decode cX3_letCome 50 = .ok (.iconst (-1), 1) := by decide +kernel
theorem dX3_letCome_51 : decode cX3_letCome 51 = .ok (.iastore, 1) := by decide +kernel
theorem dX3_letCome_52 : decode cX3_letCome 52 = .ok (.aload_n 0, 1) := by decide +kernel
theorem dX3_letCome_53 : decode cX3_letCome 53 = .ok (.aload_n 0, 1) := by decide +kernel
theorem dX3_letCome_54 : decode cX3_letCome 54 = .ok (.getfield 45, 3) := by decide +kernel
theorem dX3_letCome_57 : decode cX3_letCome 57 = .ok (.getfield 97, 3) := by decide +kernel
theorem dX3_letCome_60 : decode cX3_letCome 60 = .ok (.iload_n 3, 1) := by decide +kernel
theorem dX3_letCome_61 : decode cX3_letCome 61 = .ok (.iaload, 1) := by decide +kernel
theorem dX3_letCome_62 : decode cX3_letCome 62 = .ok (.iload 5, 2) := by decide +kernel
theorem dX3_letCome_64 : decode cX3_letCome 64 = .ok (.invokevirtual 100, 3) := by decide +kernel
theorem dX3_letCome_67 : decode cX3_letCome 67 = .ok (.aload_n 0, 1) := by decide +kernel
theorem dX3_letCome_68 : decode cX3_letCome 68 = .ok (.iload_n 1, 1) := by decide +kernel
theorem dX3_letCome_69 : decode cX3_letCome 69 = .ok (.invokevirtual 112, 3) := by decide +kernel
theorem dX3_letCome_72 : decode cX3_letCome 72 = .ok (.istore_n 3, 1) := by decide +kernel
theorem dX3_letCome_73 : decode cX3_letCome 73 = .ok (.iinc 4 1, 3) := by decide +kernel
theorem dX3_letCome_76 : decode cX3_letCome 76 = .ok (.goto (-62), 3) := by decide +kernel
theorem dX3_letCome_79 : decode cX3_letCome 79 = .ok (.iload_n 3, 1) := by decide +kernel
theorem dX3_letCome_80 : decode cX3_letCome 80 = .ok (.iconst (-1), 1) := by decide +kernel
theorem dX3_letCome_81 : decode cX3_letCome 81 = .ok (.if_icmp .eq 17, 3) := by decide +kernel
theorem dX3_letCome_84 : decode cX3_letCome 84 = .ok (.aload_n 0, 1) := by decide +kernel
theorem dX3_letCome_85 : decode cX3_letCome 85 = .ok (.dup, 1) := by decide +kernel
theorem dX3_letCome_86 : decode cX3_letCome 86 = .ok (.getfield 77, 3) := by decide +kernel
theorem dX3_letCome_89 : decode cX3_letCome 89 = .ok (.iconst 1, 1) := by decide +kernel
theorem dX3_letCome_90 : decode cX3_letCome 90 = .ok (.iadd, 1) := by decide +kernel
theorem dX3_letCome_91 : decode cX3_letCome 91 = .ok (.putfield 77, 3) := by decide +kernel
theorem dX3_letCome_94 : decode cX3_letCome 94 = .ok (.aload_n 0, 1) := by decide +kernel
theorem dX3_letCome_95 : decode cX3_letCome 95 = .ok (.invokevirtual 58, 3) := by decide +kernel
theorem dX3_letCome_98 : decode cX3_letCome 98 = .ok (.aload_n 0, 1) := by decide +kernel
theorem dX3_letCome_99 : decode cX3_letCome 99 = .ok (.getfield 80, 3) := by decide +kernel
theorem dX3_letCome_102 : decode cX3_letCome 102 = .ok (.iload_n 2, 1) := by decide +kernel
theorem dX3_letCome_103 : decode cX3_letCome 103 = .ok (.isub, 1) := by decide +kernel
theorem dX3_letCome_104 : decode cX3_letCome 104 = .ok (.ireturn, 1) := by decide +kernel
theorem dX3_nextLine_0 : decode cX3_nextLine 0 = .ok (.iconst (-1), 1) := by decide +kernel
theorem dX3_nextLine_1 : decode cX3_nextLine 1 = .ok (.istore_n 2, 1) := by decide +kernel
theorem dX3_nextLine_2 : decode cX3_nextLine 2 = .ok (.iconst 0, 1) := by decide +kernel
theorem dX3_nextLine_3 : decode cX3_nextLine 3 = .ok (.istore_n 3, 1) := by decide +kernel
theorem dX3_nextLine_4 : decode cX3_nextLine 4 = .ok (.iload_n 3, 1) := by decide +kernel
theorem dX3_nextLine_5 : decode cX3_nextLine 5 = .ok (.aload_n 0, 1) := by decide +kernel
theorem dX3_nextLine_6 : decode cX3_nextLine 6 = .ok (.getfield 45, 3) := by decide +kernel
theorem dX3_nextLine_9 : decode cX3_nextLine 9 = .ok (.getfield 89, 3) := by decide +kernel
theorem dX3_nextLine_12 : decode cX3_nextLine 12 = .ok (.if_icmp .ge 45, 3) := by decide +kernel
theorem dX3_nextLine_15 : decode cX3_nextLine 15 = .ok (.aload_n 0, 1) := by decide +kernel
theorem dX3_nextLine_16 : decode cX3_nextLine 16 = .ok (.getfield 24, 3) := by decide +kernel
theorem dX3_nextLine_19 : decode cX3_nextLine 19 = .ok (.iload_n 3, 1) := by decide +kernel
theorem dX3_nextLine_20 : decode cX3_nextLine 20 = .ok (.iaload, 1) := by decide +kernel
theorem dX3_nextLine_21 : decode cX3_nextLine 21 = .ok (.iconst (-1), 1) := by decide +kernel
theorem dX3_nextLine_22 : decode cX3_nextLine 22 = .ok (.if_icmp .eq 29, 3) := by decide +kernel
theorem dX3_nextLine_25 : decode cX3_nextLine 25 = .ok (.aload_n 0, 1) := by decide +kernel
theorem dX3_nextLine_26 : decode cX3_nextLine 26 = .ok (.getfield 27, 3) := by decide +kernel
theorem dX3_nextLine_29 : decode cX3_nextLine 29 = .ok (.iload_n 3, 1) := by decide +kernel
theorem dX3_nextLine_30 : decode cX3_nextLine 30 = .ok (.iaload, 1) := by decide +kernel
theorem dX3_nextLine_31 : decode cX3_nextLine 31 = .ok (.iload_n 1, 1) := by decide +kernel
theorem dX3_nextLine_32 : decode cX3_nextLine 32 = .ok (.if_icmp .gt 19, 3) := by decide +kernel
theorem dX3_nextLine_35 : decode cX3_nextLine 35 = .ok (.iload_n 2, 1) := by decide +kernel
theorem dX3_nextLine_36 : decode cX3_nextLine 36 = .ok (.iconst (-1), 1) := by decide +kernel
theorem dX3_nextLine_37 : decode cX3_nextLine 37 = .ok (.if_icmp .eq 12, 3) := by decide +kernel
theorem dX3_nextLine_40 : decode cX3_nextLine 40 = .ok (.aload_n 0, 1) := by decide +kernel
theorem dX3_nextLine_41 : decode cX3_nextLine 41 = .ok (.iload_n 3, 1) := by decide +kernel
theorem dX3_nextLine_42 : decode cX3_nextLine 42 = .ok (.iload_n 2, 1) := by decide +kernel
theorem dX3_nextLine_43 : decode cX3_nextLine 43 = .ok (.invokevirtual 115, 3) := by decide +kernel
theorem dX3_nextLine_46 : decode cX3_nextLine 46 = .ok (.ifCond .eq 5, 3) := by decide +kernel
theorem dX3_nextLine_49 : decode cX3_nextLine 49 = .ok (.iload_n 3, 1) := by decide +kernel
theorem dX3_nextLine_50 : decode cX3_nextLine 50 = .ok (.istore_n 2, 1) := by decide +kernel
theorem dX3_nextLine_51 : decode cX3_nextLine 51 = .ok (.iinc 3 1, 3) := by decide +kernel
theorem dX3_nextLine_54 : decode cX3_nextLine 54 = .ok (.goto (-50), 3) := by decide +kernel
theorem dX3_nextLine_57 : decode cX3_nextLine 57 = .ok (.iload_n 2, 1) := by decide +kernel
theorem dX3_nextLine_58 : decode cX3_nextLine 58 = .ok (.ireturn, 1) := by decide +kernel
theorem dX3_comesAheadOf_0 : decode cX3_comesAheadOf 0 = .ok (.aload_n 0, 1) := by decide +kernel
theorem dX3_comesAheadOf_1 : decode cX3_comesAheadOf 1 = .ok (.getfield 27, 3) := by decide +kernel
theorem dX3_comesAheadOf_4 : decode cX3_comesAheadOf 4 = .ok (.iload_n 1, 1) := by decide +kernel
theorem dX3_comesAheadOf_5 : decode cX3_comesAheadOf 5 = .ok (.iaload, 1) := by decide +kernel
theorem dX3_comesAheadOf_6 : decode cX3_comesAheadOf 6 = .ok (.aload_n 0, 1) := by decide +kernel
theorem dX3_comesAheadOf_7 : decode cX3_comesAheadOf 7 = .ok (.getfield 27, 3) := by decide +kernel
theorem dX3_comesAheadOf_10 : decode cX3_comesAheadOf 10 = .ok (.iload_n 2, 1) := by decide +kernel
theorem dX3_comesAheadOf_11 : decode cX3_comesAheadOf 11 = .ok (.iaload, 1) := by decide +kernel
theorem dX3_comesAheadOf_12 : decode cX3_comesAheadOf 12 = .ok (.if_icmp .eq 24, 3) := by decide +kernel
theorem dX3_comesAheadOf_15 : decode cX3_comesAheadOf 15 = .ok (.aload_n 0, 1) := by decide +kernel
theorem dX3_comesAheadOf_16 : decode cX3_comesAheadOf 16 = .ok (.getfield 27, 3) := by decide +kernel
theorem dX3_comesAheadOf_19 : decode cX3_comesAheadOf 19 = .ok (.iload_n 1, 1) := by decide +kernel
theorem dX3_comesAheadOf_20 : decode cX3_comesAheadOf 20 = .ok (.iaload, 1) := by decide +kernel
theorem dX3_comesAheadOf_21 : decode cX3_comesAheadOf 21 = .ok (.aload_n 0, 1) := by decide +kernel
theorem dX3_comesAheadOf_22 : decode cX3_comesAheadOf 22 = .ok (.getfield 27, 3) := by decide +kernel
theorem dX3_comesAheadOf_25 : decode cX3_comesAheadOf 25 = .ok (.iload_n 2, 1) := by decide +kernel
theorem dX3_comesAheadOf_26 : decode cX3_comesAheadOf 26 = .ok (.iaload, 1) := by decide +kernel
theorem dX3_comesAheadOf_27 : decode cX3_comesAheadOf 27 = .ok (.if_icmp .ge 7, 3) := by decide +kernel
theorem dX3_comesAheadOf_30 : decode cX3_comesAheadOf 30 = .ok (.iconst 1, 1) := by decide +kernel
theorem dX3_comesAheadOf_31 : decode cX3_comesAheadOf 31 = .ok (.goto 4, 3) := by decide +kernel
theorem dX3_comesAheadOf_34 : decode cX3_comesAheadOf 34 = .ok (.iconst 0, 1) := by decide +kernel
theorem dX3_comesAheadOf_35 : decode cX3_comesAheadOf 35 = .ok (.ireturn, 1) := by decide +kernel
theorem dX3_comesAheadOf_36 : decode cX3_comesAheadOf 36 = .ok (.aload_n 0, 1) := by decide +kernel
theorem dX3_comesAheadOf_37 : decode cX3_comesAheadOf 37 = .ok (.getfield 30, 3) := by decide +kernel
theorem dX3_comesAheadOf_40 : decode cX3_comesAheadOf 40 = .ok (.iload_n 1, 1) := by decide +kernel
theorem dX3_comesAheadOf_41 : decode cX3_comesAheadOf 41 = .ok (.iaload, 1) := by decide +kernel
theorem dX3_comesAheadOf_42 : decode cX3_comesAheadOf 42 = .ok (.aload_n 0, 1) := by decide +kernel
theorem dX3_comesAheadOf_43 : decode cX3_comesAheadOf 43 = .ok (.getfield 30, 3) := by decide +kernel
theorem dX3_comesAheadOf_46 : decode cX3_comesAheadOf 46 = .ok (.iload_n 2, 1) := by decide +kernel
theorem dX3_comesAheadOf_47 : decode cX3_comesAheadOf 47 = .ok (.iaload, 1) := by decide +kernel
theorem dX3_comesAheadOf_48 : decode cX3_comesAheadOf 48 = .ok (.if_icmp .ge 7, 3) := by decide +kernel
theorem dX3_comesAheadOf_51 : decode cX3_comesAheadOf 51 = .ok (.iconst 1, 1) := by decide +kernel
theorem dX3_comesAheadOf_52 : decode cX3_comesAheadOf 52 = .ok (.goto 4, 3) := by decide +kernel
theorem dX3_comesAheadOf_55 : decode cX3_comesAheadOf 55 = .ok (.iconst 0, 1) := by decide +kernel
theorem dX3_comesAheadOf_56 : decode cX3_comesAheadOf 56 = .ok (.ireturn, 1) := by decide +kernel
theorem dX3_nextTime_0 : decode cX3_nextTime 0 = .ok (.aload_n 0, 1) := by decide +kernel
theorem dX3_nextTime_1 : decode cX3_nextTime 1 = .ok (.ldc 104, 2) := by decide +kernel
theorem dX3_nextTime_3 : decode cX3_nextTime 3 = .ok (.invokevirtual 112, 3) := by decide +kernel
theorem dX3_nextTime_6 : decode cX3_nextTime 6 = .ok (.istore_n 1, 1) := by decide +kernel
theorem dX3_nextTime_7 : decode cX3_nextTime 7 = .ok (.iload_n 1, 1) := by decide +kernel
theorem dX3_nextTime_8 : decode cX3_nextTime 8 = .ok (.iconst (-1), 1) := by decide +kernel
theorem dX3_nextTime_9 : decode cX3_nextTime 9 = .ok (.if_icmp .ne 7, 3) := by decide +kernel
theorem dX3_nextTime_12 : decode cX3_nextTime 12 = .ok (.iconst (-1), 1) := by decide +kernel
theorem dX3_nextTime_13 : decode cX3_nextTime 13 = .ok (.goto 9, 3) := by decide +kernel
theorem dX3_nextTime_16 : decode cX3_nextTime 16 = .ok (.aload_n 0, 1) := by decide +kernel
theorem dX3_nextTime_17 : decode cX3_nextTime 17 = .ok (.getfield 27, 3) := by decide +kernel
theorem dX3_nextTime_20 : decode cX3_nextTime 20 = .ok (.iload_n 1, 1) := by decide +kernel
theorem dX3_nextTime_21 : decode cX3_nextTime 21 = .ok (.iaload, 1) := by decide +kernel
theorem dX3_nextTime_22 : decode cX3_nextTime 22 = .ok (.ireturn, 1) := by decide +kernel
theorem dX3_linesPending_0 : decode cX3_linesPending 0 = .ok (.iconst 0, 1) := by decide +kernel
theorem dX3_linesPending_1 : decode cX3_linesPending 1 = .ok (.istore_n 1, 1) := by decide +kernel
theorem dX3_linesPending_2 : decode cX3_linesPending 2 = .ok (.iconst 0, 1) := by decide +kernel
theorem dX3_linesPending_3 : decode cX3_linesPending 3 = .ok (.istore_n 2, 1) := by decide +kernel
theorem dX3_linesPending_4 : decode cX3_linesPending 4 = .ok (.iload_n 2, 1) := by decide +kernel
theorem dX3_linesPending_5 : decode cX3_linesPending 5 = .ok (.aload_n 0, 1) := by decide +kernel
theorem dX3_linesPending_6 : decode cX3_linesPending 6 = .ok (.getfield 45, 3) := by decide +kernel
theorem dX3_linesPending_9 : decode cX3_linesPending 9 = .ok (.getfield 89, 3) := by decide +kernel
theorem dX3_linesPending_12 : decode cX3_linesPending 12 = .ok (.if_icmp .ge 22, 3) := by decide +kernel
theorem dX3_linesPending_15 : decode cX3_linesPending 15 = .ok (.aload_n 0, 1) := by decide +kernel
theorem dX3_linesPending_16 : decode cX3_linesPending 16 = .ok (.getfield 24, 3) := by decide +kernel
theorem dX3_linesPending_19 : decode cX3_linesPending 19 = .ok (.iload_n 2, 1) := by decide +kernel
theorem dX3_linesPending_20 : decode cX3_linesPending 20 = .ok (.iaload, 1) := by decide +kernel
theorem dX3_linesPending_21 : decode cX3_linesPending 21 = .ok (.iconst (-1), 1) := by decide +kernel
theorem dX3_linesPending_22 : decode cX3_linesPending 22 = .ok (.if_icmp .eq 6, 3) := by decide +kernel
theorem dX3_linesPending_25 : decode cX3_linesPending 25 = .ok (.iinc 1 1, 3) := by decide +kernel
theorem dX3_linesPending_28 : decode cX3_linesPending 28 = .ok (.iinc 2 1, 3) := by decide +kernel
theorem dX3_linesPending_31 : decode cX3_linesPending 31 = .ok (.goto (-27), 3) := by decide +kernel
theorem dX3_linesPending_34 : decode cX3_linesPending 34 = .ok (.iload_n 1, 1) := by decide +kernel
theorem dX3_linesPending_35 : decode cX3_linesPending 35 = .ok (.ireturn, 1) := by decide +kernel
theorem dX3_giveUpAll_0 : decode cX3_giveUpAll 0 = .ok (.aload_n 0, 1) := by decide +kernel
theorem dX3_giveUpAll_1 : decode cX3_giveUpAll 1 = .ok (.getfield 24, 3) := by decide +kernel
theorem dX3_giveUpAll_4 : decode cX3_giveUpAll 4 = .ok (.iconst (-1), 1) := by decide +kernel
theorem dX3_giveUpAll_5 : decode cX3_giveUpAll 5 = .ok (.invokestatic 52, 3) := by decide +kernel
theorem dX3_giveUpAll_8 : decode cX3_giveUpAll 8 = .ok (.return_, 1) := by decide +kernel
theorem dX3_beginCounting_0 : decode cX3_beginCounting 0 = .ok (.aload_n 0, 1) := by decide +kernel
theorem dX3_beginCounting_1 : decode cX3_beginCounting 1 = .ok (.getfield 18, 3) := by decide +kernel
theorem dX3_beginCounting_4 : decode cX3_beginCounting 4 = .ok (.iconst 0, 1) := by decide +kernel
theorem dX3_beginCounting_5 : decode cX3_beginCounting 5 = .ok (.invokestatic 52, 3) := by decide +kernel
theorem dX3_beginCounting_8 : decode cX3_beginCounting 8 = .ok (.aload_n 0, 1) := by decide +kernel
theorem dX3_beginCounting_9 : decode cX3_beginCounting 9 = .ok (.getfield 9, 3) := by decide +kernel
theorem dX3_beginCounting_12 : decode cX3_beginCounting 12 = .ok (.iconst 0, 1) := by decide +kernel
theorem dX3_beginCounting_13 : decode cX3_beginCounting 13 = .ok (.aload_n 0, 1) := by decide +kernel
theorem dX3_beginCounting_14 : decode cX3_beginCounting 14 = .ok (.getfield 21, 3) := by decide +kernel
theorem dX3_beginCounting_17 : decode cX3_beginCounting 17 = .ok (.iconst 0, 1) := by decide +kernel
theorem dX3_beginCounting_18 : decode cX3_beginCounting 18 = .ok (.bipush 24, 2) := by decide +kernel
theorem dX3_beginCounting_20 : decode cX3_beginCounting 20 = .ok (.invokestatic 83, 3) := by decide +kernel
theorem dX3_beginCounting_23 : decode cX3_beginCounting 23 = .ok (.return_, 1) := by decide +kernel
theorem dX3_change_0 : decode cX3_change 0 = .ok (.iload_n 1, 1) := by decide +kernel
theorem dX3_change_1 : decode cX3_change 1 = .ok (.invokestatic 119, 3) := by decide +kernel
theorem dX3_change_4 : decode cX3_change 4 = .ok (.ifCond .eq 13, 3) := by decide +kernel
theorem dX3_change_7 : decode cX3_change 7 = .ok (.aload_n 0, 1) := by decide +kernel
theorem dX3_change_8 : decode cX3_change 8 = .ok (.getfield 9, 3) := by decide +kernel
theorem dX3_change_11 : decode cX3_change 11 = .ok (.iload_n 1, 1) := by decide +kernel
theorem dX3_change_12 : decode cX3_change 12 = .ok (.iaload, 1) := by decide +kernel
theorem dX3_change_13 : decode cX3_change 13 = .ok (.iload_n 2, 1) := by decide +kernel
theorem dX3_change_14 : decode cX3_change 14 = .ok (.if_icmp .ne 4, 3) := by decide +kernel
theorem dX3_change_17 : decode cX3_change 17 = .ok (.return_, 1) := by decide +kernel
theorem dX3_change_18 : decode cX3_change 18 = .ok (.aload_n 0, 1) := by decide +kernel
theorem dX3_change_19 : decode cX3_change 19 = .ok (.getfield 9, 3) := by decide +kernel
theorem dX3_change_22 : decode cX3_change 22 = .ok (.iload_n 1, 1) := by decide +kernel
theorem dX3_change_23 : decode cX3_change 23 = .ok (.iaload, 1) := by decide +kernel
theorem dX3_change_24 : decode cX3_change 24 = .ok (.istore_n 3, 1) := by decide +kernel
theorem dX3_change_25 : decode cX3_change 25 = .ok (.aload_n 0, 1) := by decide +kernel
theorem dX3_change_26 : decode cX3_change 26 = .ok (.getfield 9, 3) := by decide +kernel
theorem dX3_change_29 : decode cX3_change 29 = .ok (.iload_n 1, 1) := by decide +kernel
theorem dX3_change_30 : decode cX3_change 30 = .ok (.iload_n 2, 1) := by decide +kernel
theorem dX3_change_31 : decode cX3_change 31 = .ok (.iastore, 1) := by decide +kernel
theorem dX3_change_32 : decode cX3_change 32 = .ok (.aload_n 0, 1) := by decide +kernel
theorem dX3_change_33 : decode cX3_change 33 = .ok (.getfield 15, 3) := by decide +kernel
theorem dX3_change_36 : decode cX3_change 36 = .ok (.iload_n 1, 1) := by decide +kernel
theorem dX3_change_37 : decode cX3_change 37 = .ok (.aload_n 0, 1) := by decide +kernel
theorem dX3_change_38 : decode cX3_change 38 = .ok (.getfield 68, 3) := by decide +kernel
theorem dX3_change_41 : decode cX3_change 41 = .ok (.iastore, 1) := by decide +kernel
theorem dX3_change_42 : decode cX3_change 42 = .ok (.aload_n 0, 1) := by decide +kernel
theorem dX3_change_43 : decode cX3_change 43 = .ok (.getfield 18, 3) := by decide +kernel
theorem dX3_change_46 : decode cX3_change 46 = .ok (.iload_n 1, 1) := by decide +kernel
theorem dX3_change_47 : decode cX3_change 47 = .ok (.dup2, 1) := by decide +kernel
theorem dX3_change_48 : decode cX3_change 48 = .ok (.iaload, 1) := by decide +kernel
theorem dX3_change_49 : decode cX3_change 49 = .ok (.iconst 1, 1) := by decide +kernel
theorem dX3_change_50 : decode cX3_change 50 = .ok (.iadd, 1) := by decide +kernel
theorem dX3_change_51 : decode cX3_change 51 = .ok (.iastore, 1) := by decide +kernel
theorem dX3_change_52 : decode cX3_change 52 = .ok (.aload_n 0, 1) := by decide +kernel
theorem dX3_change_53 : decode cX3_change 53 = .ok (.dup, 1) := by decide +kernel
theorem dX3_change_54 : decode cX3_change 54 = .ok (.getfield 80, 3) := by decide +kernel
theorem dX3_change_57 : decode cX3_change 57 = .ok (.iconst 1, 1) := by decide +kernel
theorem dX3_change_58 : decode cX3_change 58 = .ok (.iadd, 1) := by decide +kernel
theorem dX3_change_59 : decode cX3_change 59 = .ok (.putfield 80, 3) := by decide +kernel
theorem dX3_change_62 : decode cX3_change 62 = .ok (.iconst 0, 1) := by decide +kernel
theorem dX3_change_63 : decode cX3_change 63 = .ok (.istore 4, 2) := by decide +kernel
theorem dX3_change_65 : decode cX3_change 65 = .ok (.iload 4, 2) := by decide +kernel
theorem dX3_change_67 : decode cX3_change 67 = .ok (.aload_n 0, 1) := by decide +kernel
theorem dX3_change_68 : decode cX3_change 68 = .ok (.getfield 45, 3) := by decide +kernel
theorem dX3_change_71 : decode cX3_change 71 = .ok (.getfield 89, 3) := by decide +kernel
theorem dX3_change_74 : decode cX3_change 74 = .ok (.if_icmp .ge 57, 3) := by decide +kernel
theorem dX3_change_77 : decode cX3_change 77 = .ok (.aload_n 0, 1) := by decide +kernel
theorem dX3_change_78 : decode cX3_change 78 = .ok (.getfield 45, 3) := by decide +kernel
theorem dX3_change_81 : decode cX3_change 81 = .ok (.iload_n 1, 1) := by decide +kernel
theorem dX3_change_82 : decode cX3_change 82 = .ok (.iload 4, 2) := by decide +kernel
theorem dX3_change_84 : decode cX3_change 84 = .ok (.invokevirtual 123, 3) := by decide +kernel
theorem dX3_change_87 : decode cX3_change 87 = .ok (.ifCond .ne 6, 3) := by decide +kernel
theorem dX3_change_90 : decode cX3_change 90 = .ok (.goto 35, 3) := by decide +kernel
theorem dX3_change_93 : decode cX3_change 93 = .ok (.aload_n 0, 1) := by decide +kernel
theorem dX3_change_94 : decode cX3_change 94 = .ok (.getfield 45, 3) := by decide +kernel
theorem dX3_change_97 : decode cX3_change 97 = .ok (.getfield 94, 3) := by decide +kernel
theorem dX3_change_100 : decode cX3_change 100 = .ok (.iload 4, 2) := by decide +kernel
theorem dX3_change_102 : decode cX3_change 102 = .ok (.iaload, 1) := by decide +kernel
theorem dX3_change_103 : decode cX3_change 103 = .ok (.bipush 9, 2) := by decide +kernel
theorem dX3_change_105 : decode cX3_change 105 = .ok (.if_icmp .ne 14, 3) := by decide +kernel
theorem dX3_change_108 : decode cX3_change 108 = .ok (.aload_n 0, 1) := by decide +kernel
theorem dX3_change_109 : decode cX3_change 109 = .ok (.iload 4, 2) := by decide +kernel
theorem dX3_change_111 : decode cX3_change 111 = .ok (.iload_n 1, 1) := by decide +kernel
theorem dX3_change_112 : decode cX3_change 112 = .ok (.iload_n 3, 1) := by decide +kernel
theorem dX3_change_113 : decode cX3_change 113 = .ok (.invokevirtual 126, 3) := by decide +kernel
theorem dX3_change_116 : decode cX3_change 116 = .ok (.goto 9, 3) := by decide +kernel
theorem dX3_change_119 : decode cX3_change 119 = .ok (.aload_n 0, 1) := by decide +kernel
theorem dX3_change_120 : decode cX3_change 120 = .ok (.iload 4, 2) := by decide +kernel
theorem dX3_change_122 : decode cX3_change 122 = .ok (.invokevirtual 130, 3) := by decide +kernel
theorem dX3_change_125 : decode cX3_change 125 = .ok (.iinc 4 1, 3) := by decide +kernel
theorem dX3_change_128 : decode cX3_change 128 = .ok (.goto (-63), 3) := by decide +kernel
theorem dX3_change_131 : decode cX3_change 131 = .ok (.return_, 1) := by decide +kernel
theorem dX3_askGate_0 : decode cX3_askGate 0 = .ok (.aload_n 0, 1) := by decide +kernel
theorem dX3_askGate_1 : decode cX3_askGate 1 = .ok (.getfield 45, 3) := by decide +kernel
theorem dX3_askGate_4 : decode cX3_askGate 4 = .ok (.getfield 94, 3) := by decide +kernel
theorem dX3_askGate_7 : decode cX3_askGate 7 = .ok (.iload_n 1, 1) := by decide +kernel
theorem dX3_askGate_8 : decode cX3_askGate 8 = .ok (.iaload, 1) := by decide +kernel
theorem dX3_askGate_9 : decode cX3_askGate 9 = .ok (.aload_n 0, 1) := by decide +kernel
theorem dX3_askGate_10 : decode cX3_askGate 10 = .ok (.aload_n 0, 1) := by decide +kernel
theorem dX3_askGate_11 : decode cX3_askGate 11 = .ok (.getfield 45, 3) := by decide +kernel
theorem dX3_askGate_14 : decode cX3_askGate 14 = .ok (.getfield 134, 3) := by decide +kernel
theorem dX3_askGate_17 : decode cX3_askGate 17 = .ok (.iload_n 1, 1) := by decide +kernel
theorem dX3_askGate_18 : decode cX3_askGate 18 = .ok (.iaload, 1) := by decide +kernel
theorem dX3_askGate_19 : decode cX3_askGate 19 = .ok (.invokevirtual 137, 3) := by decide +kernel
theorem dX3_askGate_22 : decode cX3_askGate 22 = .ok (.aload_n 0, 1) := by decide +kernel
theorem dX3_askGate_23 : decode cX3_askGate 23 = .ok (.aload_n 0, 1) := by decide +kernel
theorem dX3_askGate_24 : decode cX3_askGate 24 = .ok (.getfield 45, 3) := by decide +kernel
theorem dX3_askGate_27 : decode cX3_askGate 27 = .ok (.getfield 140, 3) := by decide +kernel
theorem dX3_askGate_30 : decode cX3_askGate 30 = .ok (.iload_n 1, 1) := by decide +kernel
theorem dX3_askGate_31 : decode cX3_askGate 31 = .ok (.iaload, 1) := by decide +kernel
theorem dX3_askGate_32 : decode cX3_askGate 32 = .ok (.invokevirtual 137, 3) := by decide +kernel
theorem dX3_askGate_35 : decode cX3_askGate 35 = .ok (.aload_n 0, 1) := by decide +kernel
theorem dX3_askGate_36 : decode cX3_askGate 36 = .ok (.aload_n 0, 1) := by decide +kernel
theorem dX3_askGate_37 : decode cX3_askGate 37 = .ok (.getfield 45, 3) := by decide +kernel
theorem dX3_askGate_40 : decode cX3_askGate 40 = .ok (.getfield 143, 3) := by decide +kernel
theorem dX3_askGate_43 : decode cX3_askGate 43 = .ok (.iload_n 1, 1) := by decide +kernel
theorem dX3_askGate_44 : decode cX3_askGate 44 = .ok (.iaload, 1) := by decide +kernel
theorem dX3_askGate_45 : decode cX3_askGate 45 = .ok (.invokevirtual 137, 3) := by decide +kernel
theorem dX3_askGate_48 : decode cX3_askGate 48 = .ok (.invokestatic 146, 3) := by decide +kernel
theorem dX3_askGate_51 : decode cX3_askGate 51 = .ok (.istore_n 2, 1) := by decide +kernel
theorem dX3_askGate_52 : decode cX3_askGate 52 = .ok (.aload_n 0, 1) := by decide +kernel
theorem dX3_askGate_53 : decode cX3_askGate 53 = .ok (.getfield 24, 3) := by decide +kernel
theorem dX3_askGate_56 : decode cX3_askGate 56 = .ok (.iload_n 1, 1) := by decide +kernel
theorem dX3_askGate_57 : decode cX3_askGate 57 = .ok (.iaload, 1) := by decide +kernel
theorem dX3_askGate_58 : decode cX3_askGate 58 = .ok (.iconst (-1), 1) := by decide +kernel
theorem dX3_askGate_59 : decode cX3_askGate 59 = .ok (.if_icmp .eq 30, 3) := by decide +kernel
theorem dX3_askGate_62 : decode cX3_askGate 62 = .ok (.aload_n 0, 1) := by decide +kernel
theorem dX3_askGate_63 : decode cX3_askGate 63 = .ok (.getfield 24, 3) := by decide +kernel
theorem dX3_askGate_66 : decode cX3_askGate 66 = .ok (.iload_n 1, 1) := by decide +kernel
theorem dX3_askGate_67 : decode cX3_askGate 67 = .ok (.iaload, 1) := by decide +kernel
theorem dX3_askGate_68 : decode cX3_askGate 68 = .ok (.iload_n 2, 1) := by decide +kernel
theorem dX3_askGate_69 : decode cX3_askGate 69 = .ok (.if_icmp .eq 20, 3) := by decide +kernel
theorem dX3_askGate_72 : decode cX3_askGate 72 = .ok (.aload_n 0, 1) := by decide +kernel
theorem dX3_askGate_73 : decode cX3_askGate 73 = .ok (.getfield 24, 3) := by decide +kernel
theorem dX3_askGate_76 : decode cX3_askGate 76 = .ok (.iload_n 1, 1) := by decide +kernel
theorem dX3_askGate_77 : decode cX3_askGate 77 = .ok (.iconst (-1), 1) := by decide +kernel
theorem dX3_askGate_78 : decode cX3_askGate 78 = .ok (.iastore, 1) := by decide +kernel
theorem dX3_askGate_79 : decode cX3_askGate 79 = .ok (.aload_n 0, 1) := by decide +kernel
theorem dX3_askGate_80 : decode cX3_askGate 80 = .ok (.dup, 1) := by decide +kernel
theorem dX3_askGate_81 : decode cX3_askGate 81 = .ok (.getfield 74, 3) := by decide +kernel
theorem dX3_askGate_84 : decode cX3_askGate 84 = .ok (.iconst 1, 1) := by decide +kernel
theorem dX3_askGate_85 : decode cX3_askGate 85 = .ok (.iadd, 1) := by decide +kernel
theorem dX3_askGate_86 : decode cX3_askGate 86 = .ok (.putfield 74, 3) := by decide +kernel
theorem dX3_askGate_89 : decode cX3_askGate 89 = .ok (.aload_n 0, 1) := by decide +kernel
theorem dX3_askGate_90 : decode cX3_askGate 90 = .ok (.getfield 24, 3) := by decide +kernel
theorem dX3_askGate_93 : decode cX3_askGate 93 = .ok (.iload_n 1, 1) := by decide +kernel
theorem dX3_askGate_94 : decode cX3_askGate 94 = .ok (.iaload, 1) := by decide +kernel
theorem dX3_askGate_95 : decode cX3_askGate 95 = .ok (.iconst (-1), 1) := by decide +kernel
theorem dX3_askGate_96 : decode cX3_askGate 96 = .ok (.if_icmp .ne 26, 3) := by decide +kernel
theorem dX3_askGate_99 : decode cX3_askGate 99 = .ok (.iload_n 2, 1) := by decide +kernel
theorem dX3_askGate_100 : decode cX3_askGate 100 = .ok (.aload_n 0, 1) := by decide +kernel
theorem dX3_askGate_101 : decode cX3_askGate 101 = .ok (.aload_n 0, 1) := by decide +kernel
theorem dX3_askGate_102 : decode cX3_askGate 102 = .ok (.getfield 45, 3) := by decide +kernel
theorem dX3_askGate_105 : decode cX3_askGate 105 = .ok (.getfield 97, 3) := by decide +kernel
theorem dX3_askGate_108 : decode cX3_askGate 108 = .ok (.iload_n 1, 1) := by decide +kernel
theorem dX3_askGate_109 : decode cX3_askGate 109 = .ok (.iaload, 1) := by decide +kernel
theorem dX3_askGate_110 : decode cX3_askGate 110 = .ok (.invokevirtual 137, 3) := by decide +kernel
theorem dX3_askGate_113 : decode cX3_askGate 113 = .ok (.if_icmp .eq 9, 3) := by decide +kernel
theorem dX3_askGate_116 : decode cX3_askGate 116 = .ok (.aload_n 0, 1) := by decide +kernel
theorem dX3_askGate_117 : decode cX3_askGate 117 = .ok (.iload_n 1, 1) := by decide +kernel
theorem dX3_askGate_118 : decode cX3_askGate 118 = .ok (.iload_n 2, 1) := by decide +kernel
theorem dX3_askGate_119 : decode cX3_askGate 119 = .ok (.invokevirtual 150, 3) := by decide +kernel
theorem dX3_askGate_122 : decode cX3_askGate 122 = .ok (.return_, 1) := by decide +kernel
theorem dX3_askRegister_0 : decode cX3_askRegister 0 = .ok (.aload_n 0, 1) := by decide +kernel
theorem dX3_askRegister_1 : decode cX3_askRegister 1 = .ok (.getfield 45, 3) := by decide +kernel
theorem dX3_askRegister_4 : decode cX3_askRegister 4 = .ok (.getfield 143, 3) := by decide +kernel
theorem dX3_askRegister_7 : decode cX3_askRegister 7 = .ok (.iload_n 1, 1) := by decide +kernel
theorem dX3_askRegister_8 : decode cX3_askRegister 8 = .ok (.iaload, 1) := by decide +kernel
theorem dX3_askRegister_9 : decode cX3_askRegister 9 = .ok (.istore 4, 2) := by decide +kernel
theorem dX3_askRegister_11 : decode cX3_askRegister 11 = .ok (.aload_n 0, 1) := by decide +kernel
theorem dX3_askRegister_12 : decode cX3_askRegister 12 = .ok (.getfield 45, 3) := by decide +kernel
theorem dX3_askRegister_15 : decode cX3_askRegister 15 = .ok (.getfield 140, 3) := by decide +kernel
theorem dX3_askRegister_18 : decode cX3_askRegister 18 = .ok (.iload_n 1, 1) := by decide +kernel
theorem dX3_askRegister_19 : decode cX3_askRegister 19 = .ok (.iaload, 1) := by decide +kernel
theorem dX3_askRegister_20 : decode cX3_askRegister 20 = .ok (.istore 5, 2) := by decide +kernel
theorem dX3_askRegister_22 : decode cX3_askRegister 22 = .ok (.aload_n 0, 1) := by decide +kernel
theorem dX3_askRegister_23 : decode cX3_askRegister 23 = .ok (.getfield 45, 3) := by decide +kernel
theorem dX3_askRegister_26 : decode cX3_askRegister 26 = .ok (.getfield 134, 3) := by decide +kernel
theorem dX3_askRegister_29 : decode cX3_askRegister 29 = .ok (.iload_n 1, 1) := by decide +kernel
theorem dX3_askRegister_30 : decode cX3_askRegister 30 = .ok (.iaload, 1) := by decide +kernel
theorem dX3_askRegister_31 : decode cX3_askRegister 31 = .ok (.istore 6, 2) := by decide +kernel
theorem dX3_askRegister_33 : decode cX3_askRegister 33 = .ok (.iload_n 2, 1) := by decide +kernel
theorem dX3_askRegister_34 : decode cX3_askRegister 34 = .ok (.iload 4, 2) := by decide +kernel
theorem dX3_askRegister_36 : decode cX3_askRegister 36 = .ok (.if_icmp .ne 19, 3) := by decide +kernel
theorem dX3_askRegister_39 : decode cX3_askRegister 39 = .ok (.aload_n 0, 1) := by decide +kernel
theorem dX3_askRegister_40 : decode cX3_askRegister 40 = .ok (.iload 4, 2) := by decide +kernel
theorem dX3_askRegister_42 : decode cX3_askRegister 42 = .ok (.invokevirtual 137, 3) := by decide +kernel
theorem dX3_askRegister_45 : decode cX3_askRegister 45 = .ok (.iconst 1, 1) := by decide +kernel
theorem dX3_askRegister_46 : decode cX3_askRegister 46 = .ok (.if_icmp .ne 9, 3) := by decide +kernel
theorem dX3_askRegister_49 : decode cX3_askRegister 49 = .ok (.aload_n 0, 1) := by decide +kernel
theorem dX3_askRegister_50 : decode cX3_askRegister 50 = .ok (.iload_n 1, 1) := by decide +kernel
theorem dX3_askRegister_51 : decode cX3_askRegister 51 = .ok (.iconst 0, 1) := by decide +kernel
theorem dX3_askRegister_52 : decode cX3_askRegister 52 = .ok (.invokevirtual 150, 3) := by decide +kernel
theorem dX3_askRegister_55 : decode cX3_askRegister 55 = .ok (.iload_n 2, 1) := by decide +kernel
theorem dX3_askRegister_56 : decode cX3_askRegister 56 = .ok (.iload 5, 2) := by decide +kernel
theorem dX3_askRegister_58 : decode cX3_askRegister 58 = .ok (.if_icmp .ne 37, 3) := by decide +kernel
theorem dX3_askRegister_61 : decode cX3_askRegister 61 = .ok (.iload_n 3, 1) := by decide +kernel
theorem dX3_askRegister_62 : decode cX3_askRegister 62 = .ok (.ifCond .ne 33, 3) := by decide +kernel
theorem dX3_askRegister_65 : decode cX3_askRegister 65 = .ok (.aload_n 0, 1) := by decide +kernel
theorem dX3_askRegister_66 : decode cX3_askRegister 66 = .ok (.iload 5, 2) := by decide +kernel
theorem dX3_askRegister_68 : decode cX3_askRegister 68 = .ok (.invokevirtual 137, 3) := by decide +kernel
theorem dX3_askRegister_71 : decode cX3_askRegister 71 = .ok (.iconst 1, 1) := by decide +kernel
theorem dX3_askRegister_72 : decode cX3_askRegister 72 = .ok (.if_icmp .ne 23, 3) := by decide +kernel
theorem dX3_askRegister_75 : decode cX3_askRegister 75 = .ok (.iload 4, 2) := by decide +kernel
theorem dX3_askRegister_77 : decode cX3_askRegister 77 = .ok (.iconst (-1), 1) := by decide +kernel
theorem dX3_askRegister_78 : decode cX3_askRegister 78 = .ok (.if_icmp .eq 12, 3) := by decide +kernel
theorem dX3_askRegister_81 : decode cX3_askRegister 81 = .ok (.aload_n 0, 1) := by decide +kernel
theorem dX3_askRegister_82 : decode cX3_askRegister 82 = .ok (.iload 4, 2) := by decide +kernel
theorem dX3_askRegister_84 : decode cX3_askRegister 84 = .ok (.invokevirtual 137, 3) := by decide +kernel
theorem dX3_askRegister_87 : decode cX3_askRegister 87 = .ok (.ifCond .ne 8, 3) := by decide +kernel
theorem dX3_askRegister_90 : decode cX3_askRegister 90 = .ok (.aload_n 0, 1) := by decide +kernel
theorem dX3_askRegister_91 : decode cX3_askRegister 91 = .ok (.iload_n 1, 1) := by decide +kernel
theorem dX3_askRegister_92 : decode cX3_askRegister 92 = .ok (.invokevirtual 153, 3) := by decide +kernel
theorem dX3_askRegister_95 : decode cX3_askRegister 95 = .ok (.iload_n 2, 1) := by decide +kernel
theorem dX3_askRegister_96 : decode cX3_askRegister 96 = .ok (.iload 6, 2) := by decide +kernel
theorem dX3_askRegister_98 : decode cX3_askRegister 98 = .ok (.if_icmp .ne 45, 3) := by decide +kernel
theorem dX3_askRegister_101 : decode cX3_askRegister 101 = .ok (.aload_n 0, 1) := by decide +kernel
theorem dX3_askRegister_102 : decode cX3_askRegister 102 = .ok (.aload_n 0, 1) := by decide +kernel
theorem dX3_askRegister_103 : decode cX3_askRegister 103 = .ok (.getfield 33, 3) := by decide +kernel
theorem dX3_askRegister_106 : decode cX3_askRegister 106 = .ok (.iload_n 1, 1) := by decide +kernel
theorem dX3_askRegister_107 : decode cX3_askRegister 107 = .ok (.iaload, 1) := by decide +kernel
theorem dX3_askRegister_108 : decode cX3_askRegister 108 = .ok (.aload_n 0, 1) := by decide +kernel
theorem dX3_askRegister_109 : decode cX3_askRegister 109 = .ok (.getfield 45, 3) := by decide +kernel
theorem dX3_askRegister_112 : decode cX3_askRegister 112 = .ok (.getfield 156, 3) := by decide +kernel
theorem dX3_askRegister_115 : decode cX3_askRegister 115 = .ok (.iload_n 1, 1) := by decide +kernel
theorem dX3_askRegister_116 : decode cX3_askRegister 116 = .ok (.iaload, 1) := by decide +kernel
theorem dX3_askRegister_117 : decode cX3_askRegister 117 = .ok (.invokevirtual 159, 3) := by decide +kernel
theorem dX3_askRegister_120 : decode cX3_askRegister 120 = .ok (.ifCond .eq 23, 3) := by decide +kernel
theorem dX3_askRegister_123 : decode cX3_askRegister 123 = .ok (.aload_n 0, 1) := by decide +kernel
theorem dX3_askRegister_124 : decode cX3_askRegister 124 = .ok (.iconst 4, 1) := by decide +kernel
theorem dX3_askRegister_125 : decode cX3_askRegister 125 = .ok (.aload_n 0, 1) := by decide +kernel
theorem dX3_askRegister_126 : decode cX3_askRegister 126 = .ok (.getfield 45, 3) := by decide +kernel
theorem dX3_askRegister_129 : decode cX3_askRegister 129 = .ok (.getfield 97, 3) := by decide +kernel
theorem dX3_askRegister_132 : decode cX3_askRegister 132 = .ok (.iload_n 1, 1) := by decide +kernel
theorem dX3_askRegister_133 : decode cX3_askRegister 133 = .ok (.iaload, 1) := by decide +kernel
theorem dX3_askRegister_134 : decode cX3_askRegister 134 = .ok (.invokevirtual 162, 3) := by decide +kernel
theorem dX3_askRegister_137 : decode cX3_askRegister 137 = .ok (.aload_n 0, 1) := by decide +kernel
theorem dX3_askRegister_138 : decode cX3_askRegister 138 = .ok (.iload_n 1, 1) := by decide +kernel
theorem dX3_askRegister_139 : decode cX3_askRegister 139 = .ok (.iconst 2, 1) := by decide +kernel
theorem dX3_askRegister_140 : decode cX3_askRegister 140 = .ok (.invokevirtual 150, 3) := by decide +kernel
theorem dX3_askRegister_143 : decode cX3_askRegister 143 = .ok (.return_, 1) := by decide +kernel
theorem dX3_rise_0 : decode cX3_rise 0 = .ok (.aload_n 0, 1) := by decide +kernel
theorem dX3_rise_1 : decode cX3_rise 1 = .ok (.getfield 45, 3) := by decide +kernel
theorem dX3_rise_4 : decode cX3_rise 4 = .ok (.getfield 134, 3) := by decide +kernel
theorem dX3_rise_7 : decode cX3_rise 7 = .ok (.iload_n 1, 1) := by decide +kernel
theorem dX3_rise_8 : decode cX3_rise 8 = .ok (.iaload, 1) := by decide +kernel
theorem dX3_rise_9 : decode cX3_rise 9 = .ok (.istore_n 2, 1) := by decide +kernel
theorem dX3_rise_10 : decode cX3_rise 10 = .ok (.aload_n 0, 1) := by decide +kernel
theorem dX3_rise_11 : decode cX3_rise 11 = .ok (.iload_n 2, 1) := by decide +kernel
theorem dX3_rise_12 : decode cX3_rise 12 = .ok (.invokevirtual 137, 3) := by decide +kernel
theorem dX3_rise_15 : decode cX3_rise 15 = .ok (.istore_n 3, 1) := by decide +kernel
theorem dX3_rise_16 : decode cX3_rise 16 = .ok (.aload_n 0, 1) := by decide +kernel
theorem dX3_rise_17 : decode cX3_rise 17 = .ok (.getfield 33, 3) := by decide +kernel
theorem dX3_rise_20 : decode cX3_rise 20 = .ok (.iload_n 1, 1) := by decide +kernel
theorem dX3_rise_21 : decode cX3_rise 21 = .ok (.aload_n 0, 1) := by decide +kernel
theorem dX3_rise_22 : decode cX3_rise 22 = .ok (.getfield 68, 3) := by decide +kernel
theorem dX3_rise_25 : decode cX3_rise 25 = .ok (.iastore, 1) := by decide +kernel
theorem dX3_rise_26 : decode cX3_rise 26 = .ok (.iload_n 2, 1) := by decide +kernel
theorem dX3_rise_27 : decode cX3_rise 27 = .ok (.invokestatic 119, 3) := by decide +kernel
theorem dX3_rise_30 : decode cX3_rise 30 = .ok (.ifCond .eq 41, 3) := by decide +kernel
theorem dX3_rise_33 : decode cX3_rise 33 = .ok (.aload_n 0, 1) := by decide +kernel
theorem dX3_rise_34 : decode cX3_rise 34 = .ok (.aload_n 0, 1) := by decide +kernel
theorem dX3_rise_35 : decode cX3_rise 35 = .ok (.getfield 15, 3) := by decide +kernel
theorem dX3_rise_38 : decode cX3_rise 38 = .ok (.iload_n 2, 1) := by decide +kernel
theorem dX3_rise_39 : decode cX3_rise 39 = .ok (.iaload, 1) := by decide +kernel
theorem dX3_rise_40 : decode cX3_rise 40 = .ok (.aload_n 0, 1) := by decide +kernel
theorem dX3_rise_41 : decode cX3_rise 41 = .ok (.getfield 45, 3) := by decide +kernel
theorem dX3_rise_44 : decode cX3_rise 44 = .ok (.getfield 165, 3) := by decide +kernel
theorem dX3_rise_47 : decode cX3_rise 47 = .ok (.iload_n 1, 1) := by decide +kernel
theorem dX3_rise_48 : decode cX3_rise 48 = .ok (.iaload, 1) := by decide +kernel
theorem dX3_rise_49 : decode cX3_rise 49 = .ok (.invokevirtual 159, 3) := by decide +kernel
theorem dX3_rise_52 : decode cX3_rise 52 = .ok (.ifCond .eq 19, 3) := by decide +kernel
theorem dX3_rise_55 : decode cX3_rise 55 = .ok (.aload_n 0, 1) := by decide +kernel
theorem dX3_rise_56 : decode cX3_rise 56 = .ok (.iconst 3, 1) := by decide +kernel
theorem dX3_rise_57 : decode cX3_rise 57 = .ok (.aload_n 0, 1) := by decide +kernel
theorem dX3_rise_58 : decode cX3_rise 58 = .ok (.getfield 45, 3) := by decide +kernel
theorem dX3_rise_61 : decode cX3_rise 61 = .ok (.getfield 97, 3) := by decide +kernel
theorem dX3_rise_64 : decode cX3_rise 64 = .ok (.iload_n 1, 1) := by decide +kernel
theorem dX3_rise_65 : decode cX3_rise 65 = .ok (.iaload, 1) := by decide +kernel
theorem dX3_rise_66 : decode cX3_rise 66 = .ok (.invokevirtual 162, 3) := by decide +kernel
theorem dX3_rise_69 : decode cX3_rise 69 = .ok (.iconst 2, 1) := by decide +kernel
theorem dX3_rise_70 : decode cX3_rise 70 = .ok (.istore_n 3, 1) := by decide +kernel
theorem dX3_rise_71 : decode cX3_rise 71 = .ok (.aload_n 0, 1) := by decide +kernel
theorem dX3_rise_72 : decode cX3_rise 72 = .ok (.iload_n 1, 1) := by decide +kernel
theorem dX3_rise_73 : decode cX3_rise 73 = .ok (.iload_n 3, 1) := by decide +kernel
theorem dX3_rise_74 : decode cX3_rise 74 = .ok (.invokevirtual 150, 3) := by decide +kernel
theorem dX3_rise_77 : decode cX3_rise 77 = .ok (.return_, 1) := by decide +kernel
theorem dX3_isRecent_0 : decode cX3_isRecent 0 = .ok (.iload_n 1, 1) := by decide +kernel
theorem dX3_isRecent_1 : decode cX3_isRecent 1 = .ok (.iconst (-1), 1) := by decide +kernel
theorem dX3_isRecent_2 : decode cX3_isRecent 2 = .ok (.if_icmp .eq 17, 3) := by decide +kernel
theorem dX3_isRecent_5 : decode cX3_isRecent 5 = .ok (.iload_n 1, 1) := by decide +kernel
theorem dX3_isRecent_6 : decode cX3_isRecent 6 = .ok (.aload_n 0, 1) := by decide +kernel
theorem dX3_isRecent_7 : decode cX3_isRecent 7 = .ok (.getfield 68, 3) := by decide +kernel
theorem dX3_isRecent_10 : decode cX3_isRecent 10 = .ok (.iload_n 2, 1) := by decide +kernel
theorem dX3_isRecent_11 : decode cX3_isRecent 11 = .ok (.isub, 1) := by decide +kernel
theorem dX3_isRecent_12 : decode cX3_isRecent 12 = .ok (.if_icmp .le 7, 3) := by decide +kernel
theorem dX3_isRecent_15 : decode cX3_isRecent 15 = .ok (.iconst 1, 1) := by decide +kernel
theorem dX3_isRecent_16 : decode cX3_isRecent 16 = .ok (.goto 4, 3) := by decide +kernel
theorem dX3_isRecent_19 : decode cX3_isRecent 19 = .ok (.iconst 0, 1) := by decide +kernel
theorem dX3_isRecent_20 : decode cX3_isRecent 20 = .ok (.ireturn, 1) := by decide +kernel
theorem dX3_makePending_0 : decode cX3_makePending 0 = .ok (.aload_n 0, 1) := by decide +kernel
theorem dX3_makePending_1 : decode cX3_makePending 1 = .ok (.getfield 24, 3) := by decide +kernel
theorem dX3_makePending_4 : decode cX3_makePending 4 = .ok (.iload_n 1, 1) := by decide +kernel
theorem dX3_makePending_5 : decode cX3_makePending 5 = .ok (.iload_n 2, 1) := by decide +kernel
theorem dX3_makePending_6 : decode cX3_makePending 6 = .ok (.iastore, 1) := by decide +kernel
theorem dX3_makePending_7 : decode cX3_makePending 7 = .ok (.aload_n 0, 1) := by decide +kernel
theorem dX3_makePending_8 : decode cX3_makePending 8 = .ok (.getfield 27, 3) := by decide +kernel
theorem dX3_makePending_11 : decode cX3_makePending 11 = .ok (.iload_n 1, 1) := by decide +kernel
theorem dX3_makePending_12 : decode cX3_makePending 12 = .ok (.aload_n 0, 1) := by decide +kernel
theorem dX3_makePending_13 : decode cX3_makePending 13 = .ok (.getfield 68, 3) := by decide +kernel
theorem dX3_makePending_16 : decode cX3_makePending 16 = .ok (.aload_n 0, 1) := by decide +kernel
theorem dX3_makePending_17 : decode cX3_makePending 17 = .ok (.getfield 45, 3) := by decide +kernel
theorem dX3_makePending_20 : decode cX3_makePending 20 = .ok (.getfield 168, 3) := by decide +kernel
theorem dX3_makePending_23 : decode cX3_makePending 23 = .ok (.iload_n 1, 1) := by decide +kernel
theorem dX3_makePending_24 : decode cX3_makePending 24 = .ok (.iaload, 1) := by decide +kernel
theorem dX3_makePending_25 : decode cX3_makePending 25 = .ok (.iadd, 1) := by decide +kernel
theorem dX3_makePending_26 : decode cX3_makePending 26 = .ok (.iastore, 1) := by decide +kernel
theorem dX3_makePending_27 : decode cX3_makePending 27 = .ok (.aload_n 0, 1) := by decide +kernel
theorem dX3_makePending_28 : decode cX3_makePending 28 = .ok (.getfield 30, 3) := by decide +kernel
theorem dX3_makePending_31 : decode cX3_makePending 31 = .ok (.iload_n 1, 1) := by decide +kernel
theorem dX3_makePending_32 : decode cX3_makePending 32 = .ok (.aload_n 0, 1) := by decide +kernel
theorem dX3_makePending_33 : decode cX3_makePending 33 = .ok (.getfield 71, 3) := by decide +kernel
theorem dX3_makePending_36 : decode cX3_makePending 36 = .ok (.iastore, 1) := by decide +kernel
theorem dX3_makePending_37 : decode cX3_makePending 37 = .ok (.aload_n 0, 1) := by decide +kernel
theorem dX3_makePending_38 : decode cX3_makePending 38 = .ok (.dup, 1) := by decide +kernel
theorem dX3_makePending_39 : decode cX3_makePending 39 = .ok (.getfield 71, 3) := by decide +kernel
theorem dX3_makePending_42 : decode cX3_makePending 42 = .ok (.iconst 1, 1) := by decide +kernel
theorem dX3_makePending_43 : decode cX3_makePending 43 = .ok (.iadd, 1) := by decide +kernel
theorem dX3_makePending_44 : decode cX3_makePending 44 = .ok (.putfield 71, 3) := by decide +kernel
theorem dX3_makePending_47 : decode cX3_makePending 47 = .ok (.return_, 1) := by decide +kernel
theorem dX3_valueOf_0 : decode cX3_valueOf 0 = .ok (.iload_n 1, 1) := by decide +kernel
theorem dX3_valueOf_1 : decode cX3_valueOf 1 = .ok (.ifCond .lt 18, 3) := by decide +kernel
theorem dX3_valueOf_4 : decode cX3_valueOf 4 = .ok (.iload_n 1, 1) := by decide +kernel
theorem dX3_valueOf_5 : decode cX3_valueOf 5 = .ok (.bipush 24, 2) := by decide +kernel
theorem dX3_valueOf_7 : decode cX3_valueOf 7 = .ok (.if_icmp .ge 12, 3) := by decide +kernel
theorem dX3_valueOf_10 : decode cX3_valueOf 10 = .ok (.aload_n 0, 1) := by decide +kernel
theorem dX3_valueOf_11 : decode cX3_valueOf 11 = .ok (.getfield 9, 3) := by decide +kernel
theorem dX3_valueOf_14 : decode cX3_valueOf 14 = .ok (.iload_n 1, 1) := by decide +kernel
theorem dX3_valueOf_15 : decode cX3_valueOf 15 = .ok (.iaload, 1) := by decide +kernel
theorem dX3_valueOf_16 : decode cX3_valueOf 16 = .ok (.goto 4, 3) := by decide +kernel
theorem dX3_valueOf_19 : decode cX3_valueOf 19 = .ok (.iconst 2, 1) := by decide +kernel
theorem dX3_valueOf_20 : decode cX3_valueOf 20 = .ok (.ireturn, 1) := by decide +kernel
theorem dX3_noteHazardsOfGates_0 : decode cX3_noteHazardsOfGates 0 = .ok (.iconst 0, 1) := by decide +kernel
theorem dX3_noteHazardsOfGates_1 : decode cX3_noteHazardsOfGates 1 = .ok (.istore_n 1, 1) := by decide +kernel
theorem dX3_noteHazardsOfGates_2 : decode cX3_noteHazardsOfGates 2 = .ok (.iload_n 1, 1) := by decide +kernel
theorem dX3_noteHazardsOfGates_3 : decode cX3_noteHazardsOfGates 3 = .ok (.bipush 24, 2) := by decide +kernel
theorem dX3_noteHazardsOfGates_5 : decode cX3_noteHazardsOfGates 5 = .ok (.if_icmp .ge 121, 3) := by decide +kernel
theorem dX3_noteHazardsOfGates_8 : decode cX3_noteHazardsOfGates 8 = .ok (.aload_n 0, 1) := by decide +kernel
theorem dX3_noteHazardsOfGates_9 : decode cX3_noteHazardsOfGates 9 = .ok (.getfield 45, 3) := by decide +kernel
theorem dX3_noteHazardsOfGates_12 : decode cX3_noteHazardsOfGates 12 = .ok (.iload_n 1, 1) := by decide +kernel
theorem dX3_noteHazardsOfGates_13 : decode cX3_noteHazardsOfGates 13 = .ok (.invokevirtual 171, 3) := by decide +kernel
theorem dX3_noteHazardsOfGates_16 : decode cX3_noteHazardsOfGates 16 = .ok (.istore_n 2, 1) := by decide +kernel
theorem dX3_noteHazardsOfGates_17 : decode cX3_noteHazardsOfGates 17 = .ok (.iload_n 2, 1) := by decide +kernel
theorem dX3_noteHazardsOfGates_18 : decode cX3_noteHazardsOfGates 18 = .ok (.iconst (-1), 1) := by decide +kernel
theorem dX3_noteHazardsOfGates_19 : decode cX3_noteHazardsOfGates 19 = .ok (.if_icmp .eq 101, 3) := by decide +kernel
theorem dX3_noteHazardsOfGates_22 : decode cX3_noteHazardsOfGates 22 = .ok (.aload_n 0, 1) := by decide +kernel
theorem dX3_noteHazardsOfGates_23 : decode cX3_noteHazardsOfGates 23 = .ok (.getfield 45, 3) := by decide +kernel
theorem dX3_noteHazardsOfGates_26 : decode cX3_noteHazardsOfGates 26 = .ok (.iload_n 2, 1) := by decide +kernel
theorem dX3_noteHazardsOfGates_27 : decode cX3_noteHazardsOfGates 27 = .ok (.invokevirtual 174, 3) := by decide +kernel
theorem dX3_noteHazardsOfGates_30 : decode cX3_noteHazardsOfGates 30 = .ok (.ifCond .eq 90, 3) := by decide +kernel
theorem dX3_noteHazardsOfGates_33 : decode cX3_noteHazardsOfGates 33 = .ok (.aload_n 0, 1) := by decide +kernel
theorem dX3_noteHazardsOfGates_34 : decode cX3_noteHazardsOfGates 34 = .ok (.getfield 21, 3) := by decide +kernel
theorem dX3_noteHazardsOfGates_37 : decode cX3_noteHazardsOfGates 37 = .ok (.iload_n 1, 1) := by decide +kernel
theorem dX3_noteHazardsOfGates_38 : decode cX3_noteHazardsOfGates 38 = .ok (.iaload, 1) := by decide +kernel
theorem dX3_noteHazardsOfGates_39 : decode cX3_noteHazardsOfGates 39 = .ok (.iconst 2, 1) := by decide +kernel
theorem dX3_noteHazardsOfGates_40 : decode cX3_noteHazardsOfGates 40 = .ok (.if_icmp .eq 80, 3) := by decide +kernel
theorem dX3_noteHazardsOfGates_43 : decode cX3_noteHazardsOfGates 43 = .ok (.aload_n 0, 1) := by decide +kernel
theorem dX3_noteHazardsOfGates_44 : decode cX3_noteHazardsOfGates 44 = .ok (.getfield 9, 3) := by decide +kernel
theorem dX3_noteHazardsOfGates_47 : decode cX3_noteHazardsOfGates 47 = .ok (.iload_n 1, 1) := by decide +kernel
theorem dX3_noteHazardsOfGates_48 : decode cX3_noteHazardsOfGates 48 = .ok (.iaload, 1) := by decide +kernel
theorem dX3_noteHazardsOfGates_49 : decode cX3_noteHazardsOfGates 49 = .ok (.iconst 2, 1) := by decide +kernel
theorem dX3_noteHazardsOfGates_50 : decode cX3_noteHazardsOfGates 50 = .ok (.if_icmp .ne 6, 3) := by decide +kernel
theorem dX3_noteHazardsOfGates_53 : decode cX3_noteHazardsOfGates 53 = .ok (.goto 67, 3) := by decide +kernel
theorem dX3_noteHazardsOfGates_56 : decode cX3_noteHazardsOfGates 56 = .ok (.aload_n 0, 1) := by decide +kernel
theorem dX3_noteHazardsOfGates_57 : decode cX3_noteHazardsOfGates 57 = .ok (.getfield 9, 3) := by decide +kernel
theorem dX3_noteHazardsOfGates_60 : decode cX3_noteHazardsOfGates 60 = .ok (.iload_n 1, 1) := by decide +kernel
theorem dX3_noteHazardsOfGates_61 : decode cX3_noteHazardsOfGates 61 = .ok (.iaload, 1) := by decide +kernel
theorem dX3_noteHazardsOfGates_62 : decode cX3_noteHazardsOfGates 62 = .ok (.aload_n 0, 1) := by decide +kernel
theorem dX3_noteHazardsOfGates_63 : decode cX3_noteHazardsOfGates 63 = .ok (.getfield 21, 3) := by decide +kernel
theorem dX3_noteHazardsOfGates_66 : decode cX3_noteHazardsOfGates 66 = .ok (.iload_n 1, 1) := by decide +kernel
theorem dX3_noteHazardsOfGates_67 : decode cX3_noteHazardsOfGates 67 = .ok (.iaload, 1) := by decide +kernel
theorem dX3_noteHazardsOfGates_68 : decode cX3_noteHazardsOfGates 68 = .ok (.if_icmp .ne 21, 3) := by decide +kernel
theorem dX3_noteHazardsOfGates_71 : decode cX3_noteHazardsOfGates 71 = .ok (.aload_n 0, 1) := by decide +kernel
theorem dX3_noteHazardsOfGates_72 : decode cX3_noteHazardsOfGates 72 = .ok (.getfield 18, 3) := by decide +kernel
theorem dX3_noteHazardsOfGates_75 : decode cX3_noteHazardsOfGates 75 = .ok (.iload_n 1, 1) := by decide +kernel
theorem dX3_noteHazardsOfGates_76 : decode cX3_noteHazardsOfGates 76 = .ok (.iaload, 1) := by decide +kernel
theorem dX3_noteHazardsOfGates_77 : decode cX3_noteHazardsOfGates 77 = .ok (.ifCond .le 12, 3) := by decide +kernel
theorem dX3_noteHazardsOfGates_80 : decode cX3_noteHazardsOfGates 80 = .ok (.aload_n 0, 1) := by decide +kernel
theorem dX3_noteHazardsOfGates_81 : decode cX3_noteHazardsOfGates 81 = .ok (.iconst 1, 1) := by decide +kernel
theorem dX3_noteHazardsOfGates_82 : decode cX3_noteHazardsOfGates 82 = .ok (.iload_n 1, 1) := by decide +kernel
theorem dX3_noteHazardsOfGates_83 : decode cX3_noteHazardsOfGates 83 = .ok (.invokevirtual 162, 3) := by decide +kernel
theorem dX3_noteHazardsOfGates_86 : decode cX3_noteHazardsOfGates 86 = .ok (.goto 34, 3) := by decide +kernel
theorem dX3_noteHazardsOfGates_89 : decode cX3_noteHazardsOfGates 89 = .ok (.aload_n 0, 1) := by decide +kernel
theorem dX3_noteHazardsOfGates_90 : decode cX3_noteHazardsOfGates 90 = .ok (.getfield 9, 3) := by decide +kernel
theorem dX3_noteHazardsOfGates_93 : decode cX3_noteHazardsOfGates 93 = .ok (.iload_n 1, 1) := by decide +kernel
theorem dX3_noteHazardsOfGates_94 : decode cX3_noteHazardsOfGates 94 = .ok (.iaload, 1) := by decide +kernel
theorem dX3_noteHazardsOfGates_95 : decode cX3_noteHazardsOfGates 95 = .ok (.aload_n 0, 1) := by decide +kernel
theorem dX3_noteHazardsOfGates_96 : decode cX3_noteHazardsOfGates 96 = .ok (.getfield 21, 3) := by decide +kernel
theorem dX3_noteHazardsOfGates_99 : decode cX3_noteHazardsOfGates 99 = .ok (.iload_n 1, 1) := by decide +kernel
theorem dX3_noteHazardsOfGates_100 : decode cX3_noteHazardsOfGates 100 = .ok (.iaload, 1) := by decide +kernel
theorem dX3_noteHazardsOfGates_101 : decode cX3_noteHazardsOfGates 101 = .ok (.if_icmp .eq 19, 3) := by decide +kernel
theorem dX3_noteHazardsOfGates_104 : decode cX3_noteHazardsOfGates 104 = .ok (.aload_n 0, 1) := by decide +kernel
theorem dX3_noteHazardsOfGates_105 : decode cX3_noteHazardsOfGates 105 = .ok (.getfield 18, 3) := by decide +kernel
theorem dX3_noteHazardsOfGates_108 : decode cX3_noteHazardsOfGates 108 = .ok (.iload_n 1, 1) := by decide +kernel
theorem dX3_noteHazardsOfGates_109 : decode cX3_noteHazardsOfGates 109 = .ok (.iaload, 1) := by decide +kernel
theorem dX3_noteHazardsOfGates_110 : decode cX3_noteHazardsOfGates 110 = .ok (.iconst 3, 1) := by decide +kernel
theorem dX3_noteHazardsOfGates_111 : decode cX3_noteHazardsOfGates 111 = .ok (.if_icmp .lt 9, 3) := by decide +kernel
theorem dX3_noteHazardsOfGates_114 : decode cX3_noteHazardsOfGates 114 = .ok (.aload_n 0, 1) := by decide +kernel
theorem dX3_noteHazardsOfGates_115 : decode cX3_noteHazardsOfGates 115 = .ok (.iconst 2, 1) := by decide +kernel
theorem dX3_noteHazardsOfGates_116 : decode cX3_noteHazardsOfGates 116 = .ok (.iload_n 1, 1) := by decide +kernel
theorem dX3_noteHazardsOfGates_117 : decode cX3_noteHazardsOfGates 117 = .ok (.invokevirtual 162, 3) := by decide +kernel
theorem dX3_noteHazardsOfGates_120 : decode cX3_noteHazardsOfGates 120 = .ok (.iinc 1 1, 3) := by decide +kernel
theorem dX3_noteHazardsOfGates_123 : decode cX3_noteHazardsOfGates 123 = .ok (.goto (-121), 3) := by decide +kernel
theorem dX3_noteHazardsOfGates_126 : decode cX3_noteHazardsOfGates 126 = .ok (.return_, 1) := by decide +kernel
theorem dX3_noteHazard_0 : decode cX3_noteHazard 0 = .ok (.aload_n 0, 1) := by decide +kernel
theorem dX3_noteHazard_1 : decode cX3_noteHazard 1 = .ok (.getfield 64, 3) := by decide +kernel
theorem dX3_noteHazard_4 : decode cX3_noteHazard 4 = .ok (.bipush 40, 2) := by decide +kernel
theorem dX3_noteHazard_6 : decode cX3_noteHazard 6 = .ok (.if_icmp .ge 46, 3) := by decide +kernel
theorem dX3_noteHazard_9 : decode cX3_noteHazard 9 = .ok (.aload_n 0, 1) := by decide +kernel
theorem dX3_noteHazard_10 : decode cX3_noteHazard 10 = .ok (.getfield 36, 3) := by decide +kernel
theorem dX3_noteHazard_13 : decode cX3_noteHazard 13 = .ok (.aload_n 0, 1) := by decide +kernel
theorem dX3_noteHazard_14 : decode cX3_noteHazard 14 = .ok (.getfield 64, 3) := by decide +kernel
theorem dX3_noteHazard_17 : decode cX3_noteHazard 17 = .ok (.iload_n 1, 1) := by decide +kernel
theorem dX3_noteHazard_18 : decode cX3_noteHazard 18 = .ok (.iastore, 1) := by decide +kernel
theorem dX3_noteHazard_19 : decode cX3_noteHazard 19 = .ok (.aload_n 0, 1) := by decide +kernel
theorem dX3_noteHazard_20 : decode cX3_noteHazard 20 = .ok (.getfield 39, 3) := by decide +kernel
theorem dX3_noteHazard_23 : decode cX3_noteHazard 23 = .ok (.aload_n 0, 1) := by decide +kernel
theorem dX3_noteHazard_24 : decode cX3_noteHazard 24 = .ok (.getfield 64, 3) := by decide +kernel
theorem dX3_noteHazard_27 : decode cX3_noteHazard 27 = .ok (.iload_n 2, 1) := by decide +kernel
theorem dX3_noteHazard_28 : decode cX3_noteHazard 28 = .ok (.iastore, 1) := by decide +kernel
theorem dX3_noteHazard_29 : decode cX3_noteHazard 29 = .ok (.aload_n 0, 1) := by decide +kernel
theorem dX3_noteHazard_30 : decode cX3_noteHazard 30 = .ok (.getfield 42, 3) := by decide +kernel
theorem dX3_noteHazard_33 : decode cX3_noteHazard 33 = .ok (.aload_n 0, 1) := by decide +kernel
theorem dX3_noteHazard_34 : decode cX3_noteHazard 34 = .ok (.getfield 64, 3) := by decide +kernel
theorem dX3_noteHazard_37 : decode cX3_noteHazard 37 = .ok (.aload_n 0, 1) := by decide +kernel
theorem dX3_noteHazard_38 : decode cX3_noteHazard 38 = .ok (.getfield 68, 3) := by decide +kernel
theorem dX3_noteHazard_41 : decode cX3_noteHazard 41 = .ok (.iastore, 1) := by decide +kernel
theorem dX3_noteHazard_42 : decode cX3_noteHazard 42 = .ok (.aload_n 0, 1) := by decide +kernel
theorem dX3_noteHazard_43 : decode cX3_noteHazard 43 = .ok (.dup, 1) := by decide +kernel
theorem dX3_noteHazard_44 : decode cX3_noteHazard 44 = .ok (.getfield 64, 3) := by decide +kernel
theorem dX3_noteHazard_47 : decode cX3_noteHazard 47 = .ok (.iconst 1, 1) := by decide +kernel
theorem dX3_noteHazard_48 : decode cX3_noteHazard 48 = .ok (.iadd, 1) := by decide +kernel
theorem dX3_noteHazard_49 : decode cX3_noteHazard 49 = .ok (.putfield 64, 3) := by decide +kernel
theorem dX3_noteHazard_52 : decode cX3_noteHazard 52 = .ok (.return_, 1) := by decide +kernel
theorem dX3_worked_0 : decode cX3_worked 0 = .ok (.iload_n 0, 1) := by decide +kernel
theorem dX3_worked_1 : decode cX3_worked 1 = .ok (.tableswitch 116 0 7 #[47, 52, 54, 60, 66, 91, 100, 109], 47) := by decide +kernel
theorem dX3_worked_48 : decode cX3_worked 48 = .ok (.iload_n 1, 1) := by decide +kernel
theorem dX3_worked_49 : decode cX3_worked 49 = .ok (.invokestatic 177, 3) := by decide +kernel
theorem dX3_worked_52 : decode cX3_worked 52 = .ok (.ireturn, 1) := by decide +kernel
theorem dX3_worked_53 : decode cX3_worked 53 = .ok (.iload_n 1, 1) := by decide +kernel
theorem dX3_worked_54 : decode cX3_worked 54 = .ok (.ireturn, 1) := by decide +kernel
theorem dX3_worked_55 : decode cX3_worked 55 = .ok (.iload_n 1, 1) := by decide +kernel
theorem dX3_worked_56 : decode cX3_worked 56 = .ok (.iload_n 2, 1) := by decide +kernel
theorem dX3_worked_57 : decode cX3_worked 57 = .ok (.invokestatic 180, 3) := by decide +kernel
theorem dX3_worked_60 : decode cX3_worked 60 = .ok (.ireturn, 1) := by decide +kernel
theorem dX3_worked_61 : decode cX3_worked 61 = .ok (.iload_n 1, 1) := by decide +kernel
theorem dX3_worked_62 : decode cX3_worked 62 = .ok (.iload_n 2, 1) := by decide +kernel
theorem dX3_worked_63 : decode cX3_worked 63 = .ok (.invokestatic 184, 3) := by decide +kernel
theorem dX3_worked_66 : decode cX3_worked 66 = .ok (.ireturn, 1) := by decide +kernel
theorem dX3_worked_67 : decode cX3_worked 67 = .ok (.iload_n 1, 1) := by decide +kernel
theorem dX3_worked_68 : decode cX3_worked 68 = .ok (.iconst 2, 1) := by decide +kernel
theorem dX3_worked_69 : decode cX3_worked 69 = .ok (.if_icmp .eq 8, 3) := by decide +kernel
theorem dX3_worked_72 : decode cX3_worked 72 = .ok (.iload_n 2, 1) := by decide +kernel
theorem dX3_worked_73 : decode cX3_worked 73 = .ok (.iconst 2, 1) := by decide +kernel
theorem dX3_worked_74 : decode cX3_worked 74 = .ok (.if_icmp .ne 7, 3) := by decide +kernel
theorem dX3_worked_77 : decode cX3_worked 77 = .ok (.iconst 2, 1) := by decide +kernel
theorem dX3_worked_78 : decode cX3_worked 78 = .ok (.goto 13, 3) := by decide +kernel
theorem dX3_worked_81 : decode cX3_worked 81 = .ok (.iload_n 1, 1) := by decide +kernel
theorem dX3_worked_82 : decode cX3_worked 82 = .ok (.iload_n 2, 1) := by decide +kernel
theorem dX3_worked_83 : decode cX3_worked 83 = .ok (.if_icmp .eq 7, 3) := by decide +kernel
theorem dX3_worked_86 : decode cX3_worked 86 = .ok (.iconst 1, 1) := by decide +kernel
theorem dX3_worked_87 : decode cX3_worked 87 = .ok (.goto 4, 3) := by decide +kernel
theorem dX3_worked_90 : decode cX3_worked 90 = .ok (.iconst 0, 1) := by decide +kernel
theorem dX3_worked_91 : decode cX3_worked 91 = .ok (.ireturn, 1) := by decide +kernel
theorem dX3_worked_92 : decode cX3_worked 92 = .ok (.iload_n 1, 1) := by decide +kernel
theorem dX3_worked_93 : decode cX3_worked 93 = .ok (.iload_n 2, 1) := by decide +kernel
theorem dX3_worked_94 : decode cX3_worked 94 = .ok (.invokestatic 180, 3) := by decide +kernel
theorem dX3_worked_97 : decode cX3_worked 97 = .ok (.invokestatic 177, 3) := by decide +kernel
theorem dX3_worked_100 : decode cX3_worked 100 = .ok (.ireturn, 1) := by decide +kernel
theorem dX3_worked_101 : decode cX3_worked 101 = .ok (.iload_n 1, 1) := by decide +kernel
theorem dX3_worked_102 : decode cX3_worked 102 = .ok (.iload_n 2, 1) := by decide +kernel
theorem dX3_worked_103 : decode cX3_worked 103 = .ok (.invokestatic 184, 3) := by decide +kernel
theorem dX3_worked_106 : decode cX3_worked 106 = .ok (.invokestatic 177, 3) := by decide +kernel
theorem dX3_worked_109 : decode cX3_worked 109 = .ok (.ireturn, 1) := by decide +kernel
theorem dX3_worked_110 : decode cX3_worked 110 = .ok (.iload_n 1, 1) := by decide +kernel
theorem dX3_worked_111 : decode cX3_worked 111 = .ok (.iload_n 2, 1) := by decide +kernel
theorem dX3_worked_112 : decode cX3_worked 112 = .ok (.iload_n 3, 1) := by decide +kernel
theorem dX3_worked_113 : decode cX3_worked 113 = .ok (.invokestatic 187, 3) := by decide +kernel
theorem dX3_worked_116 : decode cX3_worked 116 = .ok (.ireturn, 1) := by decide +kernel
theorem dX3_worked_117 : decode cX3_worked 117 = .ok (.iconst 2, 1) := by decide +kernel
theorem dX3_worked_118 : decode cX3_worked 118 = .ok (.ireturn, 1) := by decide +kernel
theorem dX3_turned_0 : decode cX3_turned 0 = .ok (.iload_n 0, 1) := by decide +kernel
theorem dX3_turned_1 : decode cX3_turned 1 = .ok (.iconst 2, 1) := by decide +kernel
theorem dX3_turned_2 : decode cX3_turned 2 = .ok (.if_icmp .ne 7, 3) := by decide +kernel
theorem dX3_turned_5 : decode cX3_turned 5 = .ok (.iconst 2, 1) := by decide +kernel
theorem dX3_turned_6 : decode cX3_turned 6 = .ok (.goto 6, 3) := by decide +kernel
theorem dX3_turned_9 : decode cX3_turned 9 = .ok (.iconst 1, 1) := by decide +kernel
theorem dX3_turned_10 : decode cX3_turned 10 = .ok (.iload_n 0, 1) := by decide +kernel
theorem dX3_turned_11 : decode cX3_turned 11 = .ok (.isub, 1) := by decide +kernel
theorem dX3_turned_12 : decode cX3_turned 12 = .ok (.ireturn, 1) := by decide +kernel
theorem dX3_both_0 : decode cX3_both 0 = .ok (.iload_n 0, 1) := by decide +kernel
theorem dX3_both_1 : decode cX3_both 1 = .ok (.ifCond .eq 7, 3) := by decide +kernel
theorem dX3_both_4 : decode cX3_both 4 = .ok (.iload_n 1, 1) := by decide +kernel
theorem dX3_both_5 : decode cX3_both 5 = .ok (.ifCond .ne 7, 3) := by decide +kernel
theorem dX3_both_8 : decode cX3_both 8 = .ok (.iconst 0, 1) := by decide +kernel
theorem dX3_both_9 : decode cX3_both 9 = .ok (.goto 18, 3) := by decide +kernel
theorem dX3_both_12 : decode cX3_both 12 = .ok (.iload_n 0, 1) := by decide +kernel
theorem dX3_both_13 : decode cX3_both 13 = .ok (.iconst 1, 1) := by decide +kernel
theorem dX3_both_14 : decode cX3_both 14 = .ok (.if_icmp .ne 12, 3) := by decide +kernel
theorem dX3_both_17 : decode cX3_both 17 = .ok (.iload_n 1, 1) := by decide +kernel
theorem dX3_both_18 : decode cX3_both 18 = .ok (.iconst 1, 1) := by decide +kernel
theorem dX3_both_19 : decode cX3_both 19 = .ok (.if_icmp .ne 7, 3) := by decide +kernel
theorem dX3_both_22 : decode cX3_both 22 = .ok (.iconst 1, 1) := by decide +kernel
theorem dX3_both_23 : decode cX3_both 23 = .ok (.goto 4, 3) := by decide +kernel
theorem dX3_both_26 : decode cX3_both 26 = .ok (.iconst 2, 1) := by decide +kernel
theorem dX3_both_27 : decode cX3_both 27 = .ok (.ireturn, 1) := by decide +kernel
theorem dX3_either_0 : decode cX3_either 0 = .ok (.iload_n 0, 1) := by decide +kernel
theorem dX3_either_1 : decode cX3_either 1 = .ok (.iconst 1, 1) := by decide +kernel
theorem dX3_either_2 : decode cX3_either 2 = .ok (.if_icmp .eq 8, 3) := by decide +kernel
theorem dX3_either_5 : decode cX3_either 5 = .ok (.iload_n 1, 1) := by decide +kernel
theorem dX3_either_6 : decode cX3_either 6 = .ok (.iconst 1, 1) := by decide +kernel
theorem dX3_either_7 : decode cX3_either 7 = .ok (.if_icmp .ne 7, 3) := by decide +kernel
theorem dX3_either_10 : decode cX3_either 10 = .ok (.iconst 1, 1) := by decide +kernel
theorem dX3_either_11 : decode cX3_either 11 = .ok (.goto 16, 3) := by decide +kernel
theorem dX3_either_14 : decode cX3_either 14 = .ok (.iload_n 0, 1) := by decide +kernel
theorem dX3_either_15 : decode cX3_either 15 = .ok (.ifCond .ne 11, 3) := by decide +kernel
theorem dX3_either_18 : decode cX3_either 18 = .ok (.iload_n 1, 1) := by decide +kernel
theorem dX3_either_19 : decode cX3_either 19 = .ok (.ifCond .ne 7, 3) := by decide +kernel
theorem dX3_either_22 : decode cX3_either 22 = .ok (.iconst 0, 1) := by decide +kernel
theorem dX3_either_23 : decode cX3_either 23 = .ok (.goto 4, 3) := by decide +kernel
theorem dX3_either_26 : decode cX3_either 26 = .ok (.iconst 2, 1) := by decide +kernel
theorem dX3_either_27 : decode cX3_either 27 = .ok (.ireturn, 1) := by decide +kernel
theorem dX3_chosen_0 : decode cX3_chosen 0 = .ok (.iload_n 0, 1) := by decide +kernel
theorem dX3_chosen_1 : decode cX3_chosen 1 = .ok (.iconst 2, 1) := by decide +kernel
theorem dX3_chosen_2 : decode cX3_chosen 2 = .ok (.if_icmp .ne 14, 3) := by decide +kernel
theorem dX3_chosen_5 : decode cX3_chosen 5 = .ok (.iload_n 1, 1) := by decide +kernel
theorem dX3_chosen_6 : decode cX3_chosen 6 = .ok (.iload_n 2, 1) := by decide +kernel
theorem dX3_chosen_7 : decode cX3_chosen 7 = .ok (.if_icmp .ne 7, 3) := by decide +kernel
theorem dX3_chosen_10 : decode cX3_chosen 10 = .ok (.iload_n 1, 1) := by decide +kernel
theorem dX3_chosen_11 : decode cX3_chosen 11 = .ok (.goto 4, 3) := by decide +kernel
theorem dX3_chosen_14 : decode cX3_chosen 14 = .ok (.iconst 2, 1) := by decide +kernel
theorem dX3_chosen_15 : decode cX3_chosen 15 = .ok (.ireturn, 1) := by decide +kernel
theorem dX3_chosen_16 : decode cX3_chosen 16 = .ok (.iload_n 0, 1) := by decide +kernel
theorem dX3_chosen_17 : decode cX3_chosen 17 = .ok (.iconst 1, 1) := by decide +kernel
theorem dX3_chosen_18 : decode cX3_chosen 18 = .ok (.if_icmp .ne 7, 3) := by decide +kernel
theorem dX3_chosen_21 : decode cX3_chosen 21 = .ok (.iload_n 1, 1) := by decide +kernel
theorem dX3_chosen_22 : decode cX3_chosen 22 = .ok (.goto 4, 3) := by decide +kernel
theorem dX3_chosen_25 : decode cX3_chosen 25 = .ok (.iload_n 2, 1) := by decide +kernel
theorem dX3_chosen_26 : decode cX3_chosen 26 = .ok (.ireturn, 1) := by decide +kernel
theorem dX4_init_0 : decode cX4_init 0 = .ok (.aload_n 0, 1) := by decide +kernel
theorem dX4_init_1 : decode cX4_init 1 = .ok (.invokespecial 1, 3) := by decide +kernel
theorem dX4_init_4 : decode cX4_init 4 = .ok (.aload_n 0, 1) := by decide +kernel
theorem dX4_init_5 : decode cX4_init 5 = .ok (.new 7, 3) := by decide +kernel
theorem dX4_init_8 : decode cX4_init 8 = .ok (.dup, 1) := by decide +kernel
theorem dX4_init_9 : decode cX4_init 9 = .ok (.invokespecial 9, 3) := by decide +kernel
theorem dX4_init_12 : decode cX4_init 12 = .ok (.putfield 10, 3) := by decide +kernel
theorem dX4_init_15 : decode cX4_init 15 = .ok (.aload_n 0, 1) := by decide +kernel
theorem dX4_init_16 : decode cX4_init 16 = .ok (.new 16, 3) := by decide +kernel
theorem dX4_init_19 : decode cX4_init 19 = .ok (.dup, 1) := by decide +kernel
theorem dX4_init_20 : decode cX4_init 20 = .ok (.invokespecial 18, 3) := by decide +kernel
theorem dX4_init_23 : decode cX4_init 23 = .ok (.putfield 19, 3) := by decide +kernel
theorem dX4_init_26 : decode cX4_init 26 = .ok (.aload_n 0, 1) := by decide +kernel
theorem dX4_init_27 : decode cX4_init 27 = .ok (.new 23, 3) := by decide +kernel
theorem dX4_init_30 : decode cX4_init 30 = .ok (.dup, 1) := by decide +kernel
theorem dX4_init_31 : decode cX4_init 31 = .ok (.invokespecial 25, 3) := by decide +kernel
theorem dX4_init_34 : decode cX4_init 34 = .ok (.putfield 26, 3) := by decide +kernel
theorem dX4_init_37 : decode cX4_init 37 = .ok (.aload_n 0, 1) := by decide +kernel
theorem dX4_init_38 : decode cX4_init 38 = .ok (.new 23, 3) := by decide +kernel
theorem dX4_init_41 : decode cX4_init 41 = .ok (.dup, 1) := by decide +kernel
theorem dX4_init_42 : decode cX4_init 42 = .ok (.invokespecial 25, 3) := by decide +kernel
theorem dX4_init_45 : decode cX4_init 45 = .ok (.putfield 30, 3) := by decide +kernel
theorem dX4_init_48 : decode cX4_init 48 = .ok (.aload_n 0, 1) := by decide +kernel
theorem dX4_init_49 : decode cX4_init 49 = .ok (.new 33, 3) := by decide +kernel
theorem dX4_init_52 : decode cX4_init 52 = .ok (.dup, 1) := by decide +kernel
theorem dX4_init_53 : decode cX4_init 53 = .ok (.aload_n 0, 1) := by decide +kernel
theorem dX4_init_54 : decode cX4_init 54 = .ok (.getfield 10, 3) := by decide +kernel
theorem dX4_init_57 : decode cX4_init 57 = .ok (.invokespecial 35, 3) := by decide +kernel
theorem dX4_init_60 : decode cX4_init 60 = .ok (.putfield 38, 3) := by decide +kernel
theorem dX4_init_63 : decode cX4_init 63 = .ok (.aload_n 0, 1) := by decide +kernel
theorem dX4_init_64 : decode cX4_init 64 = .ok (.new 33, 3) := by decide +kernel
theorem dX4_init_67 : decode cX4_init 67 = .ok (.dup, 1) := by decide +kernel
theorem dX4_init_68 : decode cX4_init 68 = .ok (.aload_n 0, 1) := by decide +kernel
theorem dX4_init_69 : decode cX4_init 69 = .ok (.getfield 10, 3) := by decide +kernel
theorem dX4_init_72 : decode cX4_init 72 = .ok (.invokespecial 35, 3) := by decide +kernel
theorem dX4_init_75 : decode cX4_init 75 = .ok (.putfield 42, 3) := by decide +kernel
theorem dX4_init_78 : decode cX4_init 78 = .ok (.aload_n 0, 1) := by decide +kernel
theorem dX4_init_79 : decode cX4_init 79 = .ok (.iconst 0, 1) := by decide +kernel
theorem dX4_init_80 : decode cX4_init 80 = .ok (.putfield 45, 3) := by decide +kernel
theorem dX4_init_83 : decode cX4_init 83 = .ok (.return_, 1) := by decide +kernel
theorem dX4_input_0 : decode cX4_input 0 = .ok (.iload_n 1, 1) := by decide +kernel
theorem dX4_input_1 : decode cX4_input 1 = .ok (.invokestatic 49, 3) := by decide +kernel
theorem dX4_input_4 : decode cX4_input 4 = .ok (.aload_n 0, 1) := by decide +kernel
theorem dX4_input_5 : decode cX4_input 5 = .ok (.invokevirtual 53, 3) := by decide +kernel
theorem dX4_input_8 : decode cX4_input 8 = .ok (.aload_n 0, 1) := by decide +kernel
theorem dX4_input_9 : decode cX4_input 9 = .ok (.bipush 8, 2) := by decide +kernel
theorem dX4_input_11 : decode cX4_input 11 = .ok (.iload_n 1, 1) := by decide +kernel
theorem dX4_input_12 : decode cX4_input 12 = .ok (.iconst (-1), 1) := by decide +kernel
theorem dX4_input_13 : decode cX4_input 13 = .ok (.iconst (-1), 1) := by decide +kernel
theorem dX4_input_14 : decode cX4_input 14 = .ok (.iconst (-1), 1) := by decide +kernel
theorem dX4_input_15 : decode cX4_input 15 = .ok (.iconst 0, 1) := by decide +kernel
theorem dX4_input_16 : decode cX4_input 16 = .ok (.invokevirtual 56, 3) := by decide +kernel
theorem dX4_input_19 : decode cX4_input 19 = .ok (.ireturn, 1) := by decide +kernel
theorem dX4_gate_0 : decode cX4_gate 0 = .ok (.iload_n 1, 1) := by decide +kernel
theorem dX4_gate_1 : decode cX4_gate 1 = .ok (.ifCond .lt 9, 3) := by decide +kernel
theorem dX4_gate_4 : decode cX4_gate 4 = .ok (.iload_n 1, 1) := by decide +kernel
theorem dX4_gate_5 : decode cX4_gate 5 = .ok (.bipush 7, 2) := by decide +kernel
theorem dX4_gate_7 : decode cX4_gate 7 = .ok (.if_icmp .le 13, 3) := by decide +kernel
theorem dX4_gate_10 : decode cX4_gate 10 = .ok (.new 60, 3) := by decide +kernel
theorem dX4_gate_13 : decode cX4_gate 13 = .ok (.dup, 1) := by decide +kernel
theorem dX4_gate_14 : decode cX4_gate 14 = .ok (.ldc 62, 2) := by decide +kernel
theorem dX4_gate_16 : decode cX4_gate 16 = .ok (.invokespecial 64, 3) := by decide +kernel
theorem dX4_gate_19 : decode cX4_gate 19 = .ok (.athrow, 1) := by decide +kernel
theorem dX4_gate_20 : decode cX4_gate 20 = .ok (.iload 6, 2) := by decide +kernel
theorem dX4_gate_22 : decode cX4_gate 22 = .ok (.invokestatic 67, 3) := by decide +kernel
theorem dX4_gate_25 : decode cX4_gate 25 = .ok (.iload_n 1, 1) := by decide +kernel
theorem dX4_gate_26 : decode cX4_gate 26 = .ok (.iconst 2, 1) := by decide +kernel
theorem dX4_gate_27 : decode cX4_gate 27 = .ok (.if_icmp .lt 8, 3) := by decide +kernel
theorem dX4_gate_30 : decode cX4_gate 30 = .ok (.iload 4, 2) := by decide +kernel
theorem dX4_gate_32 : decode cX4_gate 32 = .ok (.goto 4, 3) := by decide +kernel
theorem dX4_gate_35 : decode cX4_gate 35 = .ok (.iload_n 3, 1) := by decide +kernel
theorem dX4_gate_36 : decode cX4_gate 36 = .ok (.istore 7, 2) := by decide +kernel
theorem dX4_gate_38 : decode cX4_gate 38 = .ok (.iload_n 1, 1) := by decide +kernel
theorem dX4_gate_39 : decode cX4_gate 39 = .ok (.bipush 7, 2) := by decide +kernel
theorem dX4_gate_41 : decode cX4_gate 41 = .ok (.if_icmp .ne 8, 3) := by decide +kernel
theorem dX4_gate_44 : decode cX4_gate 44 = .ok (.iload 5, 2) := by decide +kernel
theorem dX4_gate_46 : decode cX4_gate 46 = .ok (.goto 4, 3) := by decide +kernel
theorem dX4_gate_49 : decode cX4_gate 49 = .ok (.iload_n 3, 1) := by decide +kernel
theorem dX4_gate_50 : decode cX4_gate 50 = .ok (.istore 8, 2) := by decide +kernel
theorem dX4_gate_52 : decode cX4_gate 52 = .ok (.iload_n 2, 1) := by decide +kernel
theorem dX4_gate_53 : decode cX4_gate 53 = .ok (.invokestatic 49, 3) := by decide +kernel
theorem dX4_gate_56 : decode cX4_gate 56 = .ok (.iload_n 3, 1) := by decide +kernel
theorem dX4_gate_57 : decode cX4_gate 57 = .ok (.invokestatic 49, 3) := by decide +kernel
theorem dX4_gate_60 : decode cX4_gate 60 = .ok (.iload 7, 2) := by decide +kernel
theorem dX4_gate_62 : decode cX4_gate 62 = .ok (.invokestatic 49, 3) := by decide +kernel
theorem dX4_gate_65 : decode cX4_gate 65 = .ok (.iload 8, 2) := by decide +kernel
theorem dX4_gate_67 : decode cX4_gate 67 = .ok (.invokestatic 49, 3) := by decide +kernel
theorem dX4_gate_70 : decode cX4_gate 70 = .ok (.aload_n 0, 1) := by decide +kernel
theorem dX4_gate_71 : decode cX4_gate 71 = .ok (.invokevirtual 53, 3) := by decide +kernel
theorem dX4_gate_74 : decode cX4_gate 74 = .ok (.aload_n 0, 1) := by decide +kernel
theorem dX4_gate_75 : decode cX4_gate 75 = .ok (.iload_n 1, 1) := by decide +kernel
theorem dX4_gate_76 : decode cX4_gate 76 = .ok (.iload_n 2, 1) := by decide +kernel
theorem dX4_gate_77 : decode cX4_gate 77 = .ok (.iload_n 3, 1) := by decide +kernel
theorem dX4_gate_78 : decode cX4_gate 78 = .ok (.iload 7, 2) := by decide +kernel
theorem dX4_gate_80 : decode cX4_gate 80 = .ok (.iload 8, 2) := by decide +kernel
theorem dX4_gate_82 : decode cX4_gate 82 = .ok (.iload 6, 2) := by decide +kernel
theorem dX4_gate_84 : decode cX4_gate 84 = .ok (.invokevirtual 56, 3) := by decide +kernel
theorem dX4_gate_87 : decode cX4_gate 87 = .ok (.ireturn, 1) := by decide +kernel
theorem dX4_register_0 : decode cX4_register 0 = .ok (.iload_n 1, 1) := by decide +kernel
theorem dX4_register_1 : decode cX4_register 1 = .ok (.invokestatic 49, 3) := by decide +kernel
theorem dX4_register_4 : decode cX4_register 4 = .ok (.iload_n 2, 1) := by decide +kernel
theorem dX4_register_5 : decode cX4_register 5 = .ok (.invokestatic 49, 3) := by decide +kernel
theorem dX4_register_8 : decode cX4_register 8 = .ok (.iload_n 3, 1) := by decide +kernel
theorem dX4_register_9 : decode cX4_register 9 = .ok (.invokestatic 49, 3) := by decide +kernel
theorem dX4_register_12 : decode cX4_register 12 = .ok (.iload 4, 2) := by decide +kernel
theorem dX4_register_14 : decode cX4_register 14 = .ok (.iconst (-1), 1) := by decide +kernel
theorem dX4_register_15 : decode cX4_register 15 = .ok (.if_icmp .eq 8, 3) := by decide +kernel
theorem dX4_register_18 : decode cX4_register 18 = .ok (.iload 4, 2) := by decide +kernel
theorem dX4_register_20 : decode cX4_register 20 = .ok (.invokestatic 49, 3) := by decide +kernel
theorem dX4_register_23 : decode cX4_register 23 = .ok (.iload 5, 2) := by decide +kernel
theorem dX4_register_25 : decode cX4_register 25 = .ok (.invokestatic 67, 3) := by decide +kernel
theorem dX4_register_28 : decode cX4_register 28 = .ok (.aload_n 0, 1) := by decide +kernel
theorem dX4_register_29 : decode cX4_register 29 = .ok (.invokevirtual 53, 3) := by decide +kernel
theorem dX4_register_32 : decode cX4_register 32 = .ok (.aload_n 0, 1) := by decide +kernel
theorem dX4_register_33 : decode cX4_register 33 = .ok (.bipush 9, 2) := by decide +kernel
theorem dX4_register_35 : decode cX4_register 35 = .ok (.iload_n 1, 1) := by decide +kernel
theorem dX4_register_36 : decode cX4_register 36 = .ok (.iload_n 2, 1) := by decide +kernel
theorem dX4_register_37 : decode cX4_register 37 = .ok (.iload_n 3, 1) := by decide +kernel
theorem dX4_register_38 : decode cX4_register 38 = .ok (.iload 4, 2) := by decide +kernel
theorem dX4_register_40 : decode cX4_register 40 = .ok (.iload 5, 2) := by decide +kernel
theorem dX4_register_42 : decode cX4_register 42 = .ok (.invokevirtual 56, 3) := by decide +kernel
theorem dX4_register_45 : decode cX4_register 45 = .ok (.ireturn, 1) := by decide +kernel
theorem dX4_setWindow_0 : decode cX4_setWindow 0 = .ok (.aload_n 0, 1) := by decide +kernel
theorem dX4_setWindow_1 : decode cX4_setWindow 1 = .ok (.iload_n 1, 1) := by decide +kernel
theorem dX4_setWindow_2 : decode cX4_setWindow 2 = .ok (.invokevirtual 70, 3) := by decide +kernel
theorem dX4_setWindow_5 : decode cX4_setWindow 5 = .ok (.aload_n 0, 1) := by decide +kernel
theorem dX4_setWindow_6 : decode cX4_setWindow 6 = .ok (.getfield 10, 3) := by decide +kernel
theorem dX4_setWindow_9 : decode cX4_setWindow 9 = .ok (.getfield 73, 3) := by decide +kernel
theorem dX4_setWindow_12 : decode cX4_setWindow 12 = .ok (.iload_n 1, 1) := by decide +kernel
theorem dX4_setWindow_13 : decode cX4_setWindow 13 = .ok (.iaload, 1) := by decide +kernel
theorem dX4_setWindow_14 : decode cX4_setWindow 14 = .ok (.bipush 9, 2) := by decide +kernel
theorem dX4_setWindow_16 : decode cX4_setWindow 16 = .ok (.if_icmp .eq 13, 3) := by decide +kernel
theorem dX4_setWindow_19 : decode cX4_setWindow 19 = .ok (.new 60, 3) := by decide +kernel
theorem dX4_setWindow_22 : decode cX4_setWindow 22 = .ok (.dup, 1) := by decide +kernel
theorem dX4_setWindow_23 : decode cX4_setWindow 23 = .ok (.ldc 77, 2) := by decide +kernel
theorem dX4_setWindow_25 : decode cX4_setWindow 25 = .ok (.invokespecial 64, 3) := by decide +kernel
theorem dX4_setWindow_28 : decode cX4_setWindow 28 = .ok (.athrow, 1) := by decide +kernel
theorem dX4_setWindow_29 : decode cX4_setWindow 29 = .ok (.iload_n 2, 1) := by decide +kernel
theorem dX4_setWindow_30 : decode cX4_setWindow 30 = .ok (.bipush 20, 2) := by decide +kernel
theorem dX4_setWindow_32 : decode cX4_setWindow 32 = .ok (.invokestatic 79, 3) := by decide +kernel
theorem dX4_setWindow_35 : decode cX4_setWindow 35 = .ok (.ifCond .eq 12, 3) := by decide +kernel
theorem dX4_setWindow_38 : decode cX4_setWindow 38 = .ok (.iload_n 3, 1) := by decide +kernel
theorem dX4_setWindow_39 : decode cX4_setWindow 39 = .ok (.bipush 20, 2) := by decide +kernel
theorem dX4_setWindow_41 : decode cX4_setWindow 41 = .ok (.invokestatic 79, 3) := by decide +kernel
theorem dX4_setWindow_44 : decode cX4_setWindow 44 = .ok (.ifCond .ne 13, 3) := by decide +kernel
theorem dX4_setWindow_47 : decode cX4_setWindow 47 = .ok (.new 60, 3) := by decide +kernel
theorem dX4_setWindow_50 : decode cX4_setWindow 50 = .ok (.dup, 1) := by decide +kernel
theorem dX4_setWindow_51 : decode cX4_setWindow 51 = .ok (.ldc 83, 2) := by decide +kernel
theorem dX4_setWindow_53 : decode cX4_setWindow 53 = .ok (.invokespecial 64, 3) := by decide +kernel
theorem dX4_setWindow_56 : decode cX4_setWindow 56 = .ok (.athrow, 1) := by decide +kernel
theorem dX4_setWindow_57 : decode cX4_setWindow 57 = .ok (.aload_n 0, 1) := by decide +kernel
theorem dX4_setWindow_58 : decode cX4_setWindow 58 = .ok (.getfield 10, 3) := by decide +kernel
theorem dX4_setWindow_61 : decode cX4_setWindow 61 = .ok (.getfield 85, 3) := by decide +kernel
theorem dX4_setWindow_64 : decode cX4_setWindow 64 = .ok (.iload_n 1, 1) := by decide +kernel
theorem dX4_setWindow_65 : decode cX4_setWindow 65 = .ok (.iaload, 1) := by decide +kernel
theorem dX4_setWindow_66 : decode cX4_setWindow 66 = .ok (.istore 4, 2) := by decide +kernel
theorem dX4_setWindow_68 : decode cX4_setWindow 68 = .ok (.aload_n 0, 1) := by decide +kernel
theorem dX4_setWindow_69 : decode cX4_setWindow 69 = .ok (.getfield 10, 3) := by decide +kernel
theorem dX4_setWindow_72 : decode cX4_setWindow 72 = .ok (.getfield 85, 3) := by decide +kernel
theorem dX4_setWindow_75 : decode cX4_setWindow 75 = .ok (.iload_n 1, 1) := by decide +kernel
theorem dX4_setWindow_76 : decode cX4_setWindow 76 = .ok (.iload_n 2, 1) := by decide +kernel
theorem dX4_setWindow_77 : decode cX4_setWindow 77 = .ok (.iastore, 1) := by decide +kernel
theorem dX4_setWindow_78 : decode cX4_setWindow 78 = .ok (.aload_n 0, 1) := by decide +kernel
theorem dX4_setWindow_79 : decode cX4_setWindow 79 = .ok (.getfield 10, 3) := by decide +kernel
theorem dX4_setWindow_82 : decode cX4_setWindow 82 = .ok (.getfield 88, 3) := by decide +kernel
theorem dX4_setWindow_85 : decode cX4_setWindow 85 = .ok (.iload_n 1, 1) := by decide +kernel
theorem dX4_setWindow_86 : decode cX4_setWindow 86 = .ok (.iload_n 3, 1) := by decide +kernel
theorem dX4_setWindow_87 : decode cX4_setWindow 87 = .ok (.iastore, 1) := by decide +kernel
theorem dX4_setWindow_88 : decode cX4_setWindow 88 = .ok (.iload 4, 2) := by decide +kernel
theorem dX4_setWindow_90 : decode cX4_setWindow 90 = .ok (.ireturn, 1) := by decide +kernel
theorem dX4_setDelay_0 : decode cX4_setDelay 0 = .ok (.aload_n 0, 1) := by decide +kernel
theorem dX4_setDelay_1 : decode cX4_setDelay 1 = .ok (.iload_n 1, 1) := by decide +kernel
theorem dX4_setDelay_2 : decode cX4_setDelay 2 = .ok (.invokevirtual 70, 3) := by decide +kernel
theorem dX4_setDelay_5 : decode cX4_setDelay 5 = .ok (.aload_n 0, 1) := by decide +kernel
theorem dX4_setDelay_6 : decode cX4_setDelay 6 = .ok (.iload_n 1, 1) := by decide +kernel
theorem dX4_setDelay_7 : decode cX4_setDelay 7 = .ok (.invokevirtual 91, 3) := by decide +kernel
theorem dX4_setDelay_10 : decode cX4_setDelay 10 = .ok (.iload_n 2, 1) := by decide +kernel
theorem dX4_setDelay_11 : decode cX4_setDelay 11 = .ok (.invokestatic 67, 3) := by decide +kernel
theorem dX4_setDelay_14 : decode cX4_setDelay 14 = .ok (.aload_n 0, 1) := by decide +kernel
theorem dX4_setDelay_15 : decode cX4_setDelay 15 = .ok (.getfield 10, 3) := by decide +kernel
theorem dX4_setDelay_18 : decode cX4_setDelay 18 = .ok (.getfield 94, 3) := by decide +kernel
theorem dX4_setDelay_21 : decode cX4_setDelay 21 = .ok (.iload_n 1, 1) := by decide +kernel
theorem dX4_setDelay_22 : decode cX4_setDelay 22 = .ok (.iaload, 1) := by decide +kernel
theorem dX4_setDelay_23 : decode cX4_setDelay 23 = .ok (.istore_n 3, 1) := by decide +kernel
theorem dX4_setDelay_24 : decode cX4_setDelay 24 = .ok (.aload_n 0, 1) := by decide +kernel
theorem dX4_setDelay_25 : decode cX4_setDelay 25 = .ok (.getfield 10, 3) := by decide +kernel
theorem dX4_setDelay_28 : decode cX4_setDelay 28 = .ok (.getfield 94, 3) := by decide +kernel
theorem dX4_setDelay_31 : decode cX4_setDelay 31 = .ok (.iload_n 1, 1) := by decide +kernel
theorem dX4_setDelay_32 : decode cX4_setDelay 32 = .ok (.iload_n 2, 1) := by decide +kernel
theorem dX4_setDelay_33 : decode cX4_setDelay 33 = .ok (.iastore, 1) := by decide +kernel
theorem dX4_setDelay_34 : decode cX4_setDelay 34 = .ok (.aload_n 0, 1) := by decide +kernel
theorem dX4_setDelay_35 : decode cX4_setDelay 35 = .ok (.getfield 26, 3) := by decide +kernel
theorem dX4_setDelay_38 : decode cX4_setDelay 38 = .ok (.aload_n 0, 1) := by decide +kernel
theorem dX4_setDelay_39 : decode cX4_setDelay 39 = .ok (.getfield 10, 3) := by decide +kernel
theorem dX4_setDelay_42 : decode cX4_setDelay 42 = .ok (.aload_n 0, 1) := by decide +kernel
theorem dX4_setDelay_43 : decode cX4_setDelay 43 = .ok (.getfield 19, 3) := by decide +kernel
theorem dX4_setDelay_46 : decode cX4_setDelay 46 = .ok (.iconst (-1), 1) := by decide +kernel
theorem dX4_setDelay_47 : decode cX4_setDelay 47 = .ok (.iconst 0, 1) := by decide +kernel
theorem dX4_setDelay_48 : decode cX4_setDelay 48 = .ok (.invokevirtual 97, 3) := by decide +kernel
theorem dX4_setDelay_51 : decode cX4_setDelay 51 = .ok (.iload_n 3, 1) := by decide +kernel
theorem dX4_setDelay_52 : decode cX4_setDelay 52 = .ok (.ireturn, 1) := by decide +kernel
theorem dX4_lines_0 : decode cX4_lines 0 = .ok (.aload_n 0, 1) := by decide +kernel
theorem dX4_lines_1 : decode cX4_lines 1 = .ok (.getfield 10, 3) := by decide +kernel
theorem dX4_lines_4 : decode cX4_lines 4 = .ok (.getfield 101, 3) := by decide +kernel
theorem dX4_lines_7 : decode cX4_lines 7 = .ok (.ireturn, 1) := by decide +kernel
theorem dX4_flaws_0 : decode cX4_flaws 0 = .ok (.aload_n 0, 1) := by decide +kernel
theorem dX4_flaws_1 : decode cX4_flaws 1 = .ok (.getfield 19, 3) := by decide +kernel
theorem dX4_flaws_4 : decode cX4_flaws 4 = .ok (.getfield 105, 3) := by decide +kernel
theorem dX4_flaws_7 : decode cX4_flaws 7 = .ok (.ireturn, 1) := by decide +kernel
theorem dX4_ofFlaw_0 : decode cX4_ofFlaw 0 = .ok (.iload_n 1, 1) := by decide +kernel
theorem dX4_ofFlaw_1 : decode cX4_ofFlaw 1 = .ok (.ifCond .lt 14, 3) := by decide +kernel
theorem dX4_ofFlaw_4 : decode cX4_ofFlaw 4 = .ok (.iload_n 1, 1) := by decide +kernel
theorem dX4_ofFlaw_5 : decode cX4_ofFlaw 5 = .ok (.aload_n 0, 1) := by decide +kernel
theorem dX4_ofFlaw_6 : decode cX4_ofFlaw 6 = .ok (.getfield 19, 3) := by decide +kernel
theorem dX4_ofFlaw_9 : decode cX4_ofFlaw 9 = .ok (.getfield 105, 3) := by decide +kernel
theorem dX4_ofFlaw_12 : decode cX4_ofFlaw 12 = .ok (.if_icmp .lt 13, 3) := by decide +kernel
theorem dX4_ofFlaw_15 : decode cX4_ofFlaw 15 = .ok (.new 106, 3) := by decide +kernel
theorem dX4_ofFlaw_18 : decode cX4_ofFlaw 18 = .ok (.dup, 1) := by decide +kernel
theorem dX4_ofFlaw_19 : decode cX4_ofFlaw 19 = .ok (.ldc 108, 2) := by decide +kernel
theorem dX4_ofFlaw_21 : decode cX4_ofFlaw 21 = .ok (.invokespecial 110, 3) := by decide +kernel
theorem dX4_ofFlaw_24 : decode cX4_ofFlaw 24 = .ok (.athrow, 1) := by decide +kernel
theorem dX4_ofFlaw_25 : decode cX4_ofFlaw 25 = .ok (.iload_n 2, 1) := by decide +kernel
theorem dX4_ofFlaw_26 : decode cX4_ofFlaw 26 = .ok (.ifCond .ne 13, 3) := by decide +kernel
theorem dX4_ofFlaw_29 : decode cX4_ofFlaw 29 = .ok (.aload_n 0, 1) := by decide +kernel
theorem dX4_ofFlaw_30 : decode cX4_ofFlaw 30 = .ok (.getfield 19, 3) := by decide +kernel
theorem dX4_ofFlaw_33 : decode cX4_ofFlaw 33 = .ok (.getfield 111, 3) := by decide +kernel
theorem dX4_ofFlaw_36 : decode cX4_ofFlaw 36 = .ok (.iload_n 1, 1) := by decide +kernel
theorem dX4_ofFlaw_37 : decode cX4_ofFlaw 37 = .ok (.iaload, 1) := by decide +kernel
theorem dX4_ofFlaw_38 : decode cX4_ofFlaw 38 = .ok (.ireturn, 1) := by decide +kernel
theorem dX4_ofFlaw_39 : decode cX4_ofFlaw 39 = .ok (.iload_n 2, 1) := by decide +kernel
theorem dX4_ofFlaw_40 : decode cX4_ofFlaw 40 = .ok (.iconst 1, 1) := by decide +kernel
theorem dX4_ofFlaw_41 : decode cX4_ofFlaw 41 = .ok (.if_icmp .ne 13, 3) := by decide +kernel
theorem dX4_ofFlaw_44 : decode cX4_ofFlaw 44 = .ok (.aload_n 0, 1) := by decide +kernel
theorem dX4_ofFlaw_45 : decode cX4_ofFlaw 45 = .ok (.getfield 19, 3) := by decide +kernel
theorem dX4_ofFlaw_48 : decode cX4_ofFlaw 48 = .ok (.getfield 114, 3) := by decide +kernel
theorem dX4_ofFlaw_51 : decode cX4_ofFlaw 51 = .ok (.iload_n 1, 1) := by decide +kernel
theorem dX4_ofFlaw_52 : decode cX4_ofFlaw 52 = .ok (.iaload, 1) := by decide +kernel
theorem dX4_ofFlaw_53 : decode cX4_ofFlaw 53 = .ok (.ireturn, 1) := by decide +kernel
theorem dX4_ofFlaw_54 : decode cX4_ofFlaw 54 = .ok (.new 60, 3) := by decide +kernel
theorem dX4_ofFlaw_57 : decode cX4_ofFlaw 57 = .ok (.dup, 1) := by decide +kernel
theorem dX4_ofFlaw_58 : decode cX4_ofFlaw 58 = .ok (.ldc 117, 2) := by decide +kernel
theorem dX4_ofFlaw_60 : decode cX4_ofFlaw 60 = .ok (.invokespecial 64, 3) := by decide +kernel
theorem dX4_ofFlaw_63 : decode cX4_ofFlaw 63 = .ok (.athrow, 1) := by decide +kernel
theorem dX4_arrival_0 : decode cX4_arrival 0 = .ok (.iload_n 1, 1) := by decide +kernel
theorem dX4_arrival_1 : decode cX4_arrival 1 = .ok (.invokestatic 49, 3) := by decide +kernel
theorem dX4_arrival_4 : decode cX4_arrival 4 = .ok (.aload_n 0, 1) := by decide +kernel
theorem dX4_arrival_5 : decode cX4_arrival 5 = .ok (.getfield 26, 3) := by decide +kernel
theorem dX4_arrival_8 : decode cX4_arrival 8 = .ok (.getfield 119, 3) := by decide +kernel
theorem dX4_arrival_11 : decode cX4_arrival 11 = .ok (.iload_n 1, 1) := by decide +kernel
theorem dX4_arrival_12 : decode cX4_arrival 12 = .ok (.iaload, 1) := by decide +kernel
theorem dX4_arrival_13 : decode cX4_arrival 13 = .ok (.ireturn, 1) := by decide +kernel
theorem dX4_longest_0 : decode cX4_longest 0 = .ok (.aload_n 0, 1) := by decide +kernel
theorem dX4_longest_1 : decode cX4_longest 1 = .ok (.getfield 26, 3) := by decide +kernel
theorem dX4_longest_4 : decode cX4_longest 4 = .ok (.invokevirtual 122, 3) := by decide +kernel
theorem dX4_longest_7 : decode cX4_longest 7 = .ok (.ireturn, 1) := by decide +kernel
theorem dX4_way_0 : decode cX4_way 0 = .ok (.iload_n 1, 1) := by decide +kernel
theorem dX4_way_1 : decode cX4_way 1 = .ok (.ifCond .lt 9, 3) := by decide +kernel
theorem dX4_way_4 : decode cX4_way 4 = .ok (.iload_n 1, 1) := by decide +kernel
theorem dX4_way_5 : decode cX4_way 5 = .ok (.bipush 24, 2) := by decide +kernel
theorem dX4_way_7 : decode cX4_way 7 = .ok (.if_icmp .lt 5, 3) := by decide +kernel
theorem dX4_way_10 : decode cX4_way 10 = .ok (.iconst (-1), 1) := by decide +kernel
theorem dX4_way_11 : decode cX4_way 11 = .ok (.ireturn, 1) := by decide +kernel
theorem dX4_way_12 : decode cX4_way 12 = .ok (.aload_n 0, 1) := by decide +kernel
theorem dX4_way_13 : decode cX4_way 13 = .ok (.getfield 26, 3) := by decide +kernel
theorem dX4_way_16 : decode cX4_way 16 = .ok (.aload_n 0, 1) := by decide +kernel
theorem dX4_way_17 : decode cX4_way 17 = .ok (.getfield 10, 3) := by decide +kernel
theorem dX4_way_20 : decode cX4_way 20 = .ok (.invokevirtual 126, 3) := by decide +kernel
theorem dX4_way_23 : decode cX4_way 23 = .ok (.istore_n 2, 1) := by decide +kernel
theorem dX4_way_24 : decode cX4_way 24 = .ok (.iconst 0, 1) := by decide +kernel
theorem dX4_way_25 : decode cX4_way 25 = .ok (.istore_n 3, 1) := by decide +kernel
theorem dX4_way_26 : decode cX4_way 26 = .ok (.iload_n 3, 1) := by decide +kernel
theorem dX4_way_27 : decode cX4_way 27 = .ok (.iload_n 1, 1) := by decide +kernel
theorem dX4_way_28 : decode cX4_way 28 = .ok (.if_icmp .ge 27, 3) := by decide +kernel
theorem dX4_way_31 : decode cX4_way 31 = .ok (.iload_n 2, 1) := by decide +kernel
theorem dX4_way_32 : decode cX4_way 32 = .ok (.iconst (-1), 1) := by decide +kernel
theorem dX4_way_33 : decode cX4_way 33 = .ok (.if_icmp .eq 22, 3) := by decide +kernel
theorem dX4_way_36 : decode cX4_way 36 = .ok (.aload_n 0, 1) := by decide +kernel
theorem dX4_way_37 : decode cX4_way 37 = .ok (.getfield 26, 3) := by decide +kernel
theorem dX4_way_40 : decode cX4_way 40 = .ok (.aload_n 0, 1) := by decide +kernel
theorem dX4_way_41 : decode cX4_way 41 = .ok (.getfield 10, 3) := by decide +kernel
theorem dX4_way_44 : decode cX4_way 44 = .ok (.iload_n 2, 1) := by decide +kernel
theorem dX4_way_45 : decode cX4_way 45 = .ok (.invokevirtual 130, 3) := by decide +kernel
theorem dX4_way_48 : decode cX4_way 48 = .ok (.istore_n 2, 1) := by decide +kernel
theorem dX4_way_49 : decode cX4_way 49 = .ok (.iinc 3 1, 3) := by decide +kernel
theorem dX4_way_52 : decode cX4_way 52 = .ok (.goto (-26), 3) := by decide +kernel
theorem dX4_way_55 : decode cX4_way 55 = .ok (.iload_n 2, 1) := by decide +kernel
theorem dX4_way_56 : decode cX4_way 56 = .ok (.ireturn, 1) := by decide +kernel
theorem dX4_users_0 : decode cX4_users 0 = .ok (.iload_n 1, 1) := by decide +kernel
theorem dX4_users_1 : decode cX4_users 1 = .ok (.invokestatic 49, 3) := by decide +kernel
theorem dX4_users_4 : decode cX4_users 4 = .ok (.aload_n 0, 1) := by decide +kernel
theorem dX4_users_5 : decode cX4_users 5 = .ok (.getfield 10, 3) := by decide +kernel
theorem dX4_users_8 : decode cX4_users 8 = .ok (.getfield 134, 3) := by decide +kernel
theorem dX4_users_11 : decode cX4_users 11 = .ok (.iload_n 1, 1) := by decide +kernel
theorem dX4_users_12 : decode cX4_users 12 = .ok (.iaload, 1) := by decide +kernel
theorem dX4_users_13 : decode cX4_users 13 = .ok (.invokestatic 137, 3) := by decide +kernel
theorem dX4_users_16 : decode cX4_users 16 = .ok (.ireturn, 1) := by decide +kernel
theorem dX4_start_0 : decode cX4_start 0 = .ok (.aload_n 0, 1) := by decide +kernel
theorem dX4_start_1 : decode cX4_start 1 = .ok (.getfield 19, 3) := by decide +kernel
theorem dX4_start_4 : decode cX4_start 4 = .ok (.getfield 143, 3) := by decide +kernel
theorem dX4_start_7 : decode cX4_start 7 = .ok (.ifCond .eq 13, 3) := by decide +kernel
theorem dX4_start_10 : decode cX4_start 10 = .ok (.new 146, 3) := by decide +kernel
theorem dX4_start_13 : decode cX4_start 13 = .ok (.dup, 1) := by decide +kernel
theorem dX4_start_14 : decode cX4_start 14 = .ok (.ldc 148, 2) := by decide +kernel
theorem dX4_start_16 : decode cX4_start 16 = .ok (.invokespecial 150, 3) := by decide +kernel
theorem dX4_start_19 : decode cX4_start 19 = .ok (.athrow, 1) := by decide +kernel
theorem dX4_start_20 : decode cX4_start 20 = .ok (.aload_n 0, 1) := by decide +kernel
theorem dX4_start_21 : decode cX4_start 21 = .ok (.iconst 1, 1) := by decide +kernel
theorem dX4_start_22 : decode cX4_start 22 = .ok (.putfield 45, 3) := by decide +kernel
theorem dX4_start_25 : decode cX4_start 25 = .ok (.aload_n 0, 1) := by decide +kernel
theorem dX4_start_26 : decode cX4_start 26 = .ok (.getfield 38, 3) := by decide +kernel
theorem dX4_start_29 : decode cX4_start 29 = .ok (.invokevirtual 151, 3) := by decide +kernel
theorem dX4_start_32 : decode cX4_start 32 = .ok (.aload_n 0, 1) := by decide +kernel
theorem dX4_start_33 : decode cX4_start 33 = .ok (.getfield 38, 3) := by decide +kernel
theorem dX4_start_36 : decode cX4_start 36 = .ok (.invokevirtual 154, 3) := by decide +kernel
theorem dX4_start_39 : decode cX4_start 39 = .ok (.ireturn, 1) := by decide +kernel
theorem dX4_set_0 : decode cX4_set 0 = .ok (.aload_n 0, 1) := by decide +kernel
theorem dX4_set_1 : decode cX4_set 1 = .ok (.invokevirtual 157, 3) := by decide +kernel
theorem dX4_set_4 : decode cX4_set 4 = .ok (.iload_n 1, 1) := by decide +kernel
theorem dX4_set_5 : decode cX4_set 5 = .ok (.invokestatic 49, 3) := by decide +kernel
theorem dX4_set_8 : decode cX4_set 8 = .ok (.aload_n 0, 1) := by decide +kernel
theorem dX4_set_9 : decode cX4_set 9 = .ok (.iload_n 1, 1) := by decide +kernel
theorem dX4_set_10 : decode cX4_set 10 = .ok (.iload_n 2, 1) := by decide +kernel
theorem dX4_set_11 : decode cX4_set 11 = .ok (.invokevirtual 160, 3) := by decide +kernel
theorem dX4_set_14 : decode cX4_set 14 = .ok (.aload_n 0, 1) := by decide +kernel
theorem dX4_set_15 : decode cX4_set 15 = .ok (.getfield 38, 3) := by decide +kernel
theorem dX4_set_18 : decode cX4_set 18 = .ok (.getfield 164, 3) := by decide +kernel
theorem dX4_set_21 : decode cX4_set 21 = .ok (.iload_n 1, 1) := by decide +kernel
theorem dX4_set_22 : decode cX4_set 22 = .ok (.iaload, 1) := by decide +kernel
theorem dX4_set_23 : decode cX4_set 23 = .ok (.istore_n 3, 1) := by decide +kernel
theorem dX4_set_24 : decode cX4_set 24 = .ok (.aload_n 0, 1) := by decide +kernel
theorem dX4_set_25 : decode cX4_set 25 = .ok (.getfield 38, 3) := by decide +kernel
theorem dX4_set_28 : decode cX4_set 28 = .ok (.iload_n 1, 1) := by decide +kernel
theorem dX4_set_29 : decode cX4_set 29 = .ok (.iload_n 2, 1) := by decide +kernel
theorem dX4_set_30 : decode cX4_set 30 = .ok (.invokevirtual 167, 3) := by decide +kernel
theorem dX4_set_33 : decode cX4_set 33 = .ok (.iload_n 3, 1) := by decide +kernel
theorem dX4_set_34 : decode cX4_set 34 = .ok (.ireturn, 1) := by decide +kernel
theorem dX4_pass_0 : decode cX4_pass 0 = .ok (.aload_n 0, 1) := by decide +kernel
theorem dX4_pass_1 : decode cX4_pass 1 = .ok (.invokevirtual 157, 3) := by decide +kernel
theorem dX4_pass_4 : decode cX4_pass 4 = .ok (.iload_n 1, 1) := by decide +kernel
theorem dX4_pass_5 : decode cX4_pass 5 = .ok (.bipush 100, 2) := by decide +kernel
theorem dX4_pass_7 : decode cX4_pass 7 = .ok (.invokestatic 79, 3) := by decide +kernel
theorem dX4_pass_10 : decode cX4_pass 10 = .ok (.ifCond .ne 13, 3) := by decide +kernel
theorem dX4_pass_13 : decode cX4_pass 13 = .ok (.new 60, 3) := by decide +kernel
theorem dX4_pass_16 : decode cX4_pass 16 = .ok (.dup, 1) := by decide +kernel
theorem dX4_pass_17 : decode cX4_pass 17 = .ok (.ldc 170, 2) := by decide +kernel
theorem dX4_pass_19 : decode cX4_pass 19 = .ok (.invokespecial 64, 3) := by decide +kernel
theorem dX4_pass_22 : decode cX4_pass 22 = .ok (.athrow, 1) := by decide +kernel
theorem dX4_pass_23 : decode cX4_pass 23 = .ok (.aload_n 0, 1) := by decide +kernel
theorem dX4_pass_24 : decode cX4_pass 24 = .ok (.getfield 38, 3) := by decide +kernel
theorem dX4_pass_27 : decode cX4_pass 27 = .ok (.getfield 172, 3) := by decide +kernel
theorem dX4_pass_30 : decode cX4_pass 30 = .ok (.iload_n 1, 1) := by decide +kernel
theorem dX4_pass_31 : decode cX4_pass 31 = .ok (.iadd, 1) := by decide +kernel
theorem dX4_pass_32 : decode cX4_pass 32 = .ok (.istore_n 2, 1) := by decide +kernel
theorem dX4_pass_33 : decode cX4_pass 33 = .ok (.aload_n 0, 1) := by decide +kernel
theorem dX4_pass_34 : decode cX4_pass 34 = .ok (.getfield 38, 3) := by decide +kernel
theorem dX4_pass_37 : decode cX4_pass 37 = .ok (.iload_n 2, 1) := by decide +kernel
theorem dX4_pass_38 : decode cX4_pass 38 = .ok (.invokevirtual 175, 3) := by decide +kernel
theorem dX4_pass_41 : decode cX4_pass 41 = .ok (.istore_n 3, 1) := by decide +kernel
theorem dX4_pass_42 : decode cX4_pass 42 = .ok (.aload_n 0, 1) := by decide +kernel
theorem dX4_pass_43 : decode cX4_pass 43 = .ok (.getfield 38, 3) := by decide +kernel
theorem dX4_pass_46 : decode cX4_pass 46 = .ok (.iload_n 2, 1) := by decide +kernel
theorem dX4_pass_47 : decode cX4_pass 47 = .ok (.putfield 172, 3) := by decide +kernel
theorem dX4_pass_50 : decode cX4_pass 50 = .ok (.iload_n 3, 1) := by decide +kernel
theorem dX4_pass_51 : decode cX4_pass 51 = .ok (.ireturn, 1) := by decide +kernel
theorem dX4_settle_0 : decode cX4_settle 0 = .ok (.aload_n 0, 1) := by decide +kernel
theorem dX4_settle_1 : decode cX4_settle 1 = .ok (.invokevirtual 157, 3) := by decide +kernel
theorem dX4_settle_4 : decode cX4_settle 4 = .ok (.aload_n 0, 1) := by decide +kernel
theorem dX4_settle_5 : decode cX4_settle 5 = .ok (.getfield 38, 3) := by decide +kernel
theorem dX4_settle_8 : decode cX4_settle 8 = .ok (.invokevirtual 178, 3) := by decide +kernel
theorem dX4_settle_11 : decode cX4_settle 11 = .ok (.ireturn, 1) := by decide +kernel
theorem dX4_isRunning_0 : decode cX4_isRunning 0 = .ok (.aload_n 0, 1) := by decide +kernel
theorem dX4_isRunning_1 : decode cX4_isRunning 1 = .ok (.getfield 45, 3) := by decide +kernel
theorem dX4_isRunning_4 : decode cX4_isRunning 4 = .ok (.ireturn, 1) := by decide +kernel
theorem dX4_told_0 : decode cX4_told 0 = .ok (.iload_n 1, 1) := by decide +kernel
theorem dX4_told_1 : decode cX4_told 1 = .ok (.tableswitch 87 0 5 #[39, 47, 55, 63, 71, 79], 39) := by decide +kernel
theorem dX4_told_40 : decode cX4_told 40 = .ok (.aload_n 0, 1) := by decide +kernel
theorem dX4_told_41 : decode cX4_told 41 = .ok (.getfield 38, 3) := by decide +kernel
theorem dX4_told_44 : decode cX4_told 44 = .ok (.getfield 172, 3) := by decide +kernel
theorem dX4_told_47 : decode cX4_told 47 = .ok (.ireturn, 1) := by decide +kernel
theorem dX4_told_48 : decode cX4_told 48 = .ok (.aload_n 0, 1) := by decide +kernel
theorem dX4_told_49 : decode cX4_told 49 = .ok (.getfield 38, 3) := by decide +kernel
theorem dX4_told_52 : decode cX4_told 52 = .ok (.invokevirtual 154, 3) := by decide +kernel
theorem dX4_told_55 : decode cX4_told 55 = .ok (.ireturn, 1) := by decide +kernel
theorem dX4_told_56 : decode cX4_told 56 = .ok (.aload_n 0, 1) := by decide +kernel
theorem dX4_told_57 : decode cX4_told 57 = .ok (.getfield 38, 3) := by decide +kernel
theorem dX4_told_60 : decode cX4_told 60 = .ok (.invokevirtual 181, 3) := by decide +kernel
theorem dX4_told_63 : decode cX4_told 63 = .ok (.ireturn, 1) := by decide +kernel
theorem dX4_told_64 : decode cX4_told 64 = .ok (.aload_n 0, 1) := by decide +kernel
theorem dX4_told_65 : decode cX4_told 65 = .ok (.getfield 38, 3) := by decide +kernel
theorem dX4_told_68 : decode cX4_told 68 = .ok (.getfield 184, 3) := by decide +kernel
theorem dX4_told_71 : decode cX4_told 71 = .ok (.ireturn, 1) := by decide +kernel
theorem dX4_told_72 : decode cX4_told 72 = .ok (.aload_n 0, 1) := by decide +kernel
theorem dX4_told_73 : decode cX4_told 73 = .ok (.getfield 38, 3) := by decide +kernel
theorem dX4_told_76 : decode cX4_told 76 = .ok (.getfield 187, 3) := by decide +kernel
theorem dX4_told_79 : decode cX4_told 79 = .ok (.ireturn, 1) := by decide +kernel
theorem dX4_told_80 : decode cX4_told 80 = .ok (.aload_n 0, 1) := by decide +kernel
theorem dX4_told_81 : decode cX4_told 81 = .ok (.getfield 38, 3) := by decide +kernel
theorem dX4_told_84 : decode cX4_told 84 = .ok (.getfield 190, 3) := by decide +kernel
theorem dX4_told_87 : decode cX4_told 87 = .ok (.ireturn, 1) := by decide +kernel
theorem dX4_told_88 : decode cX4_told 88 = .ok (.new 60, 3) := by decide +kernel
theorem dX4_told_91 : decode cX4_told 91 = .ok (.dup, 1) := by decide +kernel
theorem dX4_told_92 : decode cX4_told 92 = .ok (.ldc 193, 2) := by decide +kernel
theorem dX4_told_94 : decode cX4_told 94 = .ok (.invokespecial 64, 3) := by decide +kernel
theorem dX4_told_97 : decode cX4_told 97 = .ok (.athrow, 1) := by decide +kernel
theorem dX4_ofWire_0 : decode cX4_ofWire 0 = .ok (.iload_n 1, 1) := by decide +kernel
theorem dX4_ofWire_1 : decode cX4_ofWire 1 = .ok (.invokestatic 49, 3) := by decide +kernel
theorem dX4_ofWire_4 : decode cX4_ofWire 4 = .ok (.iload_n 2, 1) := by decide +kernel
theorem dX4_ofWire_5 : decode cX4_ofWire 5 = .ok (.tableswitch 71 0 3 #[31, 41, 51, 61], 31) := by decide +kernel
theorem dX4_ofWire_36 : decode cX4_ofWire 36 = .ok (.aload_n 0, 1) := by decide +kernel
theorem dX4_ofWire_37 : decode cX4_ofWire 37 = .ok (.getfield 38, 3) := by decide +kernel
theorem dX4_ofWire_40 : decode cX4_ofWire 40 = .ok (.getfield 164, 3) := by decide +kernel
theorem dX4_ofWire_43 : decode cX4_ofWire 43 = .ok (.iload_n 1, 1) := by decide +kernel
theorem dX4_ofWire_44 : decode cX4_ofWire 44 = .ok (.iaload, 1) := by decide +kernel
theorem dX4_ofWire_45 : decode cX4_ofWire 45 = .ok (.ireturn, 1) := by decide +kernel
theorem dX4_ofWire_46 : decode cX4_ofWire 46 = .ok (.aload_n 0, 1) := by decide +kernel
theorem dX4_ofWire_47 : decode cX4_ofWire 47 = .ok (.getfield 38, 3) := by decide +kernel
theorem dX4_ofWire_50 : decode cX4_ofWire 50 = .ok (.getfield 195, 3) := by decide +kernel
theorem dX4_ofWire_53 : decode cX4_ofWire 53 = .ok (.iload_n 1, 1) := by decide +kernel
theorem dX4_ofWire_54 : decode cX4_ofWire 54 = .ok (.iaload, 1) := by decide +kernel
theorem dX4_ofWire_55 : decode cX4_ofWire 55 = .ok (.ireturn, 1) := by decide +kernel
theorem dX4_ofWire_56 : decode cX4_ofWire 56 = .ok (.aload_n 0, 1) := by decide +kernel
theorem dX4_ofWire_57 : decode cX4_ofWire 57 = .ok (.getfield 38, 3) := by decide +kernel
theorem dX4_ofWire_60 : decode cX4_ofWire 60 = .ok (.getfield 198, 3) := by decide +kernel
theorem dX4_ofWire_63 : decode cX4_ofWire 63 = .ok (.iload_n 1, 1) := by decide +kernel
theorem dX4_ofWire_64 : decode cX4_ofWire 64 = .ok (.iaload, 1) := by decide +kernel
theorem dX4_ofWire_65 : decode cX4_ofWire 65 = .ok (.ireturn, 1) := by decide +kernel
theorem dX4_ofWire_66 : decode cX4_ofWire 66 = .ok (.aload_n 0, 1) := by decide +kernel
theorem dX4_ofWire_67 : decode cX4_ofWire 67 = .ok (.getfield 38, 3) := by decide +kernel
theorem dX4_ofWire_70 : decode cX4_ofWire 70 = .ok (.getfield 201, 3) := by decide +kernel
theorem dX4_ofWire_73 : decode cX4_ofWire 73 = .ok (.iload_n 1, 1) := by decide +kernel
theorem dX4_ofWire_74 : decode cX4_ofWire 74 = .ok (.iaload, 1) := by decide +kernel
theorem dX4_ofWire_75 : decode cX4_ofWire 75 = .ok (.ireturn, 1) := by decide +kernel
theorem dX4_ofWire_76 : decode cX4_ofWire 76 = .ok (.new 60, 3) := by decide +kernel
theorem dX4_ofWire_79 : decode cX4_ofWire 79 = .ok (.dup, 1) := by decide +kernel
theorem dX4_ofWire_80 : decode cX4_ofWire 80 = .ok (.ldc 204, 2) := by decide +kernel
theorem dX4_ofWire_82 : decode cX4_ofWire 82 = .ok (.invokespecial 64, 3) := by decide +kernel
theorem dX4_ofWire_85 : decode cX4_ofWire 85 = .ok (.athrow, 1) := by decide +kernel
theorem dX4_pending_0 : decode cX4_pending 0 = .ok (.aload_n 0, 1) := by decide +kernel
theorem dX4_pending_1 : decode cX4_pending 1 = .ok (.iload_n 1, 1) := by decide +kernel
theorem dX4_pending_2 : decode cX4_pending 2 = .ok (.invokevirtual 70, 3) := by decide +kernel
theorem dX4_pending_5 : decode cX4_pending 5 = .ok (.aload_n 0, 1) := by decide +kernel
theorem dX4_pending_6 : decode cX4_pending 6 = .ok (.getfield 38, 3) := by decide +kernel
theorem dX4_pending_9 : decode cX4_pending 9 = .ok (.getfield 206, 3) := by decide +kernel
theorem dX4_pending_12 : decode cX4_pending 12 = .ok (.iload_n 1, 1) := by decide +kernel
theorem dX4_pending_13 : decode cX4_pending 13 = .ok (.iaload, 1) := by decide +kernel
theorem dX4_pending_14 : decode cX4_pending 14 = .ok (.ireturn, 1) := by decide +kernel
theorem dX4_hazards_0 : decode cX4_hazards 0 = .ok (.aload_n 0, 1) := by decide +kernel
theorem dX4_hazards_1 : decode cX4_hazards 1 = .ok (.getfield 38, 3) := by decide +kernel
theorem dX4_hazards_4 : decode cX4_hazards 4 = .ok (.getfield 209, 3) := by decide +kernel
theorem dX4_hazards_7 : decode cX4_hazards 7 = .ok (.ireturn, 1) := by decide +kernel
theorem dX4_ofHazard_0 : decode cX4_ofHazard 0 = .ok (.iload_n 1, 1) := by decide +kernel
theorem dX4_ofHazard_1 : decode cX4_ofHazard 1 = .ok (.ifCond .lt 14, 3) := by decide +kernel
theorem dX4_ofHazard_4 : decode cX4_ofHazard 4 = .ok (.iload_n 1, 1) := by decide +kernel
theorem dX4_ofHazard_5 : decode cX4_ofHazard 5 = .ok (.aload_n 0, 1) := by decide +kernel
theorem dX4_ofHazard_6 : decode cX4_ofHazard 6 = .ok (.getfield 38, 3) := by decide +kernel
theorem dX4_ofHazard_9 : decode cX4_ofHazard 9 = .ok (.getfield 209, 3) := by decide +kernel
theorem dX4_ofHazard_12 : decode cX4_ofHazard 12 = .ok (.if_icmp .lt 13, 3) := by decide +kernel
theorem dX4_ofHazard_15 : decode cX4_ofHazard 15 = .ok (.new 106, 3) := by decide +kernel
theorem dX4_ofHazard_18 : decode cX4_ofHazard 18 = .ok (.dup, 1) := by decide +kernel
theorem dX4_ofHazard_19 : decode cX4_ofHazard 19 = .ok (.ldc 212, 2) := by decide +kernel
theorem dX4_ofHazard_21 : decode cX4_ofHazard 21 = .ok (.invokespecial 110, 3) := by decide +kernel
theorem dX4_ofHazard_24 : decode cX4_ofHazard 24 = .ok (.athrow, 1) := by decide +kernel
theorem dX4_ofHazard_25 : decode cX4_ofHazard 25 = .ok (.iload_n 2, 1) := by decide +kernel
theorem dX4_ofHazard_26 : decode cX4_ofHazard 26 = .ok (.tableswitch 56 0 2 #[26, 36, 46], 26) := by decide +kernel
theorem dX4_ofHazard_52 : decode cX4_ofHazard 52 = .ok (.aload_n 0, 1) := by decide +kernel
theorem dX4_ofHazard_53 : decode cX4_ofHazard 53 = .ok (.getfield 38, 3) := by decide +kernel
theorem dX4_ofHazard_56 : decode cX4_ofHazard 56 = .ok (.getfield 214, 3) := by decide +kernel
theorem dX4_ofHazard_59 : decode cX4_ofHazard 59 = .ok (.iload_n 1, 1) := by decide +kernel
theorem dX4_ofHazard_60 : decode cX4_ofHazard 60 = .ok (.iaload, 1) := by decide +kernel
theorem dX4_ofHazard_61 : decode cX4_ofHazard 61 = .ok (.ireturn, 1) := by decide +kernel
theorem dX4_ofHazard_62 : decode cX4_ofHazard 62 = .ok (.aload_n 0, 1) := by decide +kernel
theorem dX4_ofHazard_63 : decode cX4_ofHazard 63 = .ok (.getfield 38, 3) := by decide +kernel
theorem dX4_ofHazard_66 : decode cX4_ofHazard 66 = .ok (.getfield 217, 3) := by decide +kernel
theorem dX4_ofHazard_69 : decode cX4_ofHazard 69 = .ok (.iload_n 1, 1) := by decide +kernel
theorem dX4_ofHazard_70 : decode cX4_ofHazard 70 = .ok (.iaload, 1) := by decide +kernel
theorem dX4_ofHazard_71 : decode cX4_ofHazard 71 = .ok (.ireturn, 1) := by decide +kernel
theorem dX4_ofHazard_72 : decode cX4_ofHazard 72 = .ok (.aload_n 0, 1) := by decide +kernel
theorem dX4_ofHazard_73 : decode cX4_ofHazard 73 = .ok (.getfield 38, 3) := by decide +kernel
theorem dX4_ofHazard_76 : decode cX4_ofHazard 76 = .ok (.getfield 220, 3) := by decide +kernel
theorem dX4_ofHazard_79 : decode cX4_ofHazard 79 = .ok (.iload_n 1, 1) := by decide +kernel
theorem dX4_ofHazard_80 : decode cX4_ofHazard 80 = .ok (.iaload, 1) := by decide +kernel
theorem dX4_ofHazard_81 : decode cX4_ofHazard 81 = .ok (.ireturn, 1) := by decide +kernel
theorem dX4_ofHazard_82 : decode cX4_ofHazard 82 = .ok (.new 60, 3) := by decide +kernel
theorem dX4_ofHazard_85 : decode cX4_ofHazard 85 = .ok (.dup, 1) := by decide +kernel
theorem dX4_ofHazard_86 : decode cX4_ofHazard 86 = .ok (.ldc 223, 2) := by decide +kernel
theorem dX4_ofHazard_88 : decode cX4_ofHazard 88 = .ok (.invokespecial 64, 3) := by decide +kernel
theorem dX4_ofHazard_91 : decode cX4_ofHazard 91 = .ok (.athrow, 1) := by decide +kernel
theorem dX4_wouldBe_0 : decode cX4_wouldBe 0 = .ok (.aload_n 0, 1) := by decide +kernel
theorem dX4_wouldBe_1 : decode cX4_wouldBe 1 = .ok (.invokevirtual 157, 3) := by decide +kernel
theorem dX4_wouldBe_4 : decode cX4_wouldBe 4 = .ok (.iload_n 1, 1) := by decide +kernel
theorem dX4_wouldBe_5 : decode cX4_wouldBe 5 = .ok (.invokestatic 49, 3) := by decide +kernel
theorem dX4_wouldBe_8 : decode cX4_wouldBe 8 = .ok (.iload_n 3, 1) := by decide +kernel
theorem dX4_wouldBe_9 : decode cX4_wouldBe 9 = .ok (.invokestatic 49, 3) := by decide +kernel
theorem dX4_wouldBe_12 : decode cX4_wouldBe 12 = .ok (.aload_n 0, 1) := by decide +kernel
theorem dX4_wouldBe_13 : decode cX4_wouldBe 13 = .ok (.iload_n 1, 1) := by decide +kernel
theorem dX4_wouldBe_14 : decode cX4_wouldBe 14 = .ok (.iload_n 2, 1) := by decide +kernel
theorem dX4_wouldBe_15 : decode cX4_wouldBe 15 = .ok (.invokevirtual 160, 3) := by decide +kernel
theorem dX4_wouldBe_18 : decode cX4_wouldBe 18 = .ok (.aload_n 0, 1) := by decide +kernel
theorem dX4_wouldBe_19 : decode cX4_wouldBe 19 = .ok (.getfield 42, 3) := by decide +kernel
theorem dX4_wouldBe_22 : decode cX4_wouldBe 22 = .ok (.aload_n 0, 1) := by decide +kernel
theorem dX4_wouldBe_23 : decode cX4_wouldBe 23 = .ok (.getfield 38, 3) := by decide +kernel
theorem dX4_wouldBe_26 : decode cX4_wouldBe 26 = .ok (.invokevirtual 225, 3) := by decide +kernel
theorem dX4_wouldBe_29 : decode cX4_wouldBe 29 = .ok (.aload_n 0, 1) := by decide +kernel
theorem dX4_wouldBe_30 : decode cX4_wouldBe 30 = .ok (.getfield 42, 3) := by decide +kernel
theorem dX4_wouldBe_33 : decode cX4_wouldBe 33 = .ok (.iload_n 1, 1) := by decide +kernel
theorem dX4_wouldBe_34 : decode cX4_wouldBe 34 = .ok (.iload_n 2, 1) := by decide +kernel
theorem dX4_wouldBe_35 : decode cX4_wouldBe 35 = .ok (.invokevirtual 167, 3) := by decide +kernel
theorem dX4_wouldBe_38 : decode cX4_wouldBe 38 = .ok (.aload_n 0, 1) := by decide +kernel
theorem dX4_wouldBe_39 : decode cX4_wouldBe 39 = .ok (.getfield 42, 3) := by decide +kernel
theorem dX4_wouldBe_42 : decode cX4_wouldBe 42 = .ok (.invokevirtual 178, 3) := by decide +kernel
theorem dX4_wouldBe_45 : decode cX4_wouldBe 45 = .ok (.pop, 1) := by decide +kernel
theorem dX4_wouldBe_46 : decode cX4_wouldBe 46 = .ok (.aload_n 0, 1) := by decide +kernel
theorem dX4_wouldBe_47 : decode cX4_wouldBe 47 = .ok (.getfield 42, 3) := by decide +kernel
theorem dX4_wouldBe_50 : decode cX4_wouldBe 50 = .ok (.getfield 164, 3) := by decide +kernel
theorem dX4_wouldBe_53 : decode cX4_wouldBe 53 = .ok (.iload_n 3, 1) := by decide +kernel
theorem dX4_wouldBe_54 : decode cX4_wouldBe 54 = .ok (.iaload, 1) := by decide +kernel
theorem dX4_wouldBe_55 : decode cX4_wouldBe 55 = .ok (.ireturn, 1) := by decide +kernel
theorem dX4_hazardsWith_0 : decode cX4_hazardsWith 0 = .ok (.aload_n 0, 1) := by decide +kernel
theorem dX4_hazardsWith_1 : decode cX4_hazardsWith 1 = .ok (.invokevirtual 157, 3) := by decide +kernel
theorem dX4_hazardsWith_4 : decode cX4_hazardsWith 4 = .ok (.iload_n 1, 1) := by decide +kernel
theorem dX4_hazardsWith_5 : decode cX4_hazardsWith 5 = .ok (.invokestatic 49, 3) := by decide +kernel
theorem dX4_hazardsWith_8 : decode cX4_hazardsWith 8 = .ok (.aload_n 0, 1) := by decide +kernel
theorem dX4_hazardsWith_9 : decode cX4_hazardsWith 9 = .ok (.iload_n 1, 1) := by decide +kernel
theorem dX4_hazardsWith_10 : decode cX4_hazardsWith 10 = .ok (.iload_n 2, 1) := by decide +kernel
theorem dX4_hazardsWith_11 : decode cX4_hazardsWith 11 = .ok (.invokevirtual 160, 3) := by decide +kernel
theorem dX4_hazardsWith_14 : decode cX4_hazardsWith 14 = .ok (.aload_n 0, 1) := by decide +kernel
theorem dX4_hazardsWith_15 : decode cX4_hazardsWith 15 = .ok (.getfield 42, 3) := by decide +kernel
theorem dX4_hazardsWith_18 : decode cX4_hazardsWith 18 = .ok (.aload_n 0, 1) := by decide +kernel
theorem dX4_hazardsWith_19 : decode cX4_hazardsWith 19 = .ok (.getfield 38, 3) := by decide +kernel
theorem dX4_hazardsWith_22 : decode cX4_hazardsWith 22 = .ok (.invokevirtual 225, 3) := by decide +kernel
theorem dX4_hazardsWith_25 : decode cX4_hazardsWith 25 = .ok (.aload_n 0, 1) := by decide +kernel
theorem dX4_hazardsWith_26 : decode cX4_hazardsWith 26 = .ok (.getfield 42, 3) := by decide +kernel
theorem dX4_hazardsWith_29 : decode cX4_hazardsWith 29 = .ok (.iload_n 1, 1) := by decide +kernel
theorem dX4_hazardsWith_30 : decode cX4_hazardsWith 30 = .ok (.iload_n 2, 1) := by decide +kernel
theorem dX4_hazardsWith_31 : decode cX4_hazardsWith 31 = .ok (.invokevirtual 167, 3) := by decide +kernel
theorem dX4_hazardsWith_34 : decode cX4_hazardsWith 34 = .ok (.aload_n 0, 1) := by decide +kernel
theorem dX4_hazardsWith_35 : decode cX4_hazardsWith 35 = .ok (.getfield 42, 3) := by decide +kernel
theorem dX4_hazardsWith_38 : decode cX4_hazardsWith 38 = .ok (.invokevirtual 178, 3) := by decide +kernel
theorem dX4_hazardsWith_41 : decode cX4_hazardsWith 41 = .ok (.pop, 1) := by decide +kernel
theorem dX4_hazardsWith_42 : decode cX4_hazardsWith 42 = .ok (.aload_n 0, 1) := by decide +kernel
theorem dX4_hazardsWith_43 : decode cX4_hazardsWith 43 = .ok (.getfield 42, 3) := by decide +kernel
theorem dX4_hazardsWith_46 : decode cX4_hazardsWith 46 = .ok (.getfield 209, 3) := by decide +kernel
theorem dX4_hazardsWith_49 : decode cX4_hazardsWith 49 = .ok (.aload_n 0, 1) := by decide +kernel
theorem dX4_hazardsWith_50 : decode cX4_hazardsWith 50 = .ok (.getfield 38, 3) := by decide +kernel
theorem dX4_hazardsWith_53 : decode cX4_hazardsWith 53 = .ok (.getfield 209, 3) := by decide +kernel
theorem dX4_hazardsWith_56 : decode cX4_hazardsWith 56 = .ok (.isub, 1) := by decide +kernel
theorem dX4_hazardsWith_57 : decode cX4_hazardsWith 57 = .ok (.ireturn, 1) := by decide +kernel
theorem dX4_settlesIn_0 : decode cX4_settlesIn 0 = .ok (.aload_n 0, 1) := by decide +kernel
theorem dX4_settlesIn_1 : decode cX4_settlesIn 1 = .ok (.invokevirtual 157, 3) := by decide +kernel
theorem dX4_settlesIn_4 : decode cX4_settlesIn 4 = .ok (.aload_n 0, 1) := by decide +kernel
theorem dX4_settlesIn_5 : decode cX4_settlesIn 5 = .ok (.getfield 42, 3) := by decide +kernel
theorem dX4_settlesIn_8 : decode cX4_settlesIn 8 = .ok (.aload_n 0, 1) := by decide +kernel
theorem dX4_settlesIn_9 : decode cX4_settlesIn 9 = .ok (.getfield 38, 3) := by decide +kernel
theorem dX4_settlesIn_12 : decode cX4_settlesIn 12 = .ok (.invokevirtual 225, 3) := by decide +kernel
theorem dX4_settlesIn_15 : decode cX4_settlesIn 15 = .ok (.aload_n 0, 1) := by decide +kernel
theorem dX4_settlesIn_16 : decode cX4_settlesIn 16 = .ok (.getfield 42, 3) := by decide +kernel
theorem dX4_settlesIn_19 : decode cX4_settlesIn 19 = .ok (.ldc 229, 2) := by decide +kernel
theorem dX4_settlesIn_21 : decode cX4_settlesIn 21 = .ok (.invokevirtual 175, 3) := by decide +kernel
theorem dX4_settlesIn_24 : decode cX4_settlesIn 24 = .ok (.pop, 1) := by decide +kernel
theorem dX4_settlesIn_25 : decode cX4_settlesIn 25 = .ok (.aload_n 0, 1) := by decide +kernel
theorem dX4_settlesIn_26 : decode cX4_settlesIn 26 = .ok (.getfield 42, 3) := by decide +kernel
theorem dX4_settlesIn_29 : decode cX4_settlesIn 29 = .ok (.getfield 187, 3) := by decide +kernel
theorem dX4_settlesIn_32 : decode cX4_settlesIn 32 = .ok (.aload_n 0, 1) := by decide +kernel
theorem dX4_settlesIn_33 : decode cX4_settlesIn 33 = .ok (.getfield 38, 3) := by decide +kernel
theorem dX4_settlesIn_36 : decode cX4_settlesIn 36 = .ok (.getfield 187, 3) := by decide +kernel
theorem dX4_settlesIn_39 : decode cX4_settlesIn 39 = .ok (.if_icmp .ne 21, 3) := by decide +kernel
theorem dX4_settlesIn_42 : decode cX4_settlesIn 42 = .ok (.aload_n 0, 1) := by decide +kernel
theorem dX4_settlesIn_43 : decode cX4_settlesIn 43 = .ok (.getfield 42, 3) := by decide +kernel
theorem dX4_settlesIn_46 : decode cX4_settlesIn 46 = .ok (.getfield 172, 3) := by decide +kernel
theorem dX4_settlesIn_49 : decode cX4_settlesIn 49 = .ok (.aload_n 0, 1) := by decide +kernel
theorem dX4_settlesIn_50 : decode cX4_settlesIn 50 = .ok (.getfield 38, 3) := by decide +kernel
theorem dX4_settlesIn_53 : decode cX4_settlesIn 53 = .ok (.getfield 172, 3) := by decide +kernel
theorem dX4_settlesIn_56 : decode cX4_settlesIn 56 = .ok (.isub, 1) := by decide +kernel
theorem dX4_settlesIn_57 : decode cX4_settlesIn 57 = .ok (.goto 4, 3) := by decide +kernel
theorem dX4_settlesIn_60 : decode cX4_settlesIn 60 = .ok (.iconst (-1), 1) := by decide +kernel
theorem dX4_settlesIn_61 : decode cX4_settlesIn 61 = .ok (.ireturn, 1) := by decide +kernel
theorem dX4_longestWith_0 : decode cX4_longestWith 0 = .ok (.aload_n 0, 1) := by decide +kernel
theorem dX4_longestWith_1 : decode cX4_longestWith 1 = .ok (.iload_n 1, 1) := by decide +kernel
theorem dX4_longestWith_2 : decode cX4_longestWith 2 = .ok (.invokevirtual 70, 3) := by decide +kernel
theorem dX4_longestWith_5 : decode cX4_longestWith 5 = .ok (.aload_n 0, 1) := by decide +kernel
theorem dX4_longestWith_6 : decode cX4_longestWith 6 = .ok (.iload_n 1, 1) := by decide +kernel
theorem dX4_longestWith_7 : decode cX4_longestWith 7 = .ok (.invokevirtual 91, 3) := by decide +kernel
theorem dX4_longestWith_10 : decode cX4_longestWith 10 = .ok (.iload_n 2, 1) := by decide +kernel
theorem dX4_longestWith_11 : decode cX4_longestWith 11 = .ok (.invokestatic 67, 3) := by decide +kernel
theorem dX4_longestWith_14 : decode cX4_longestWith 14 = .ok (.aload_n 0, 1) := by decide +kernel
theorem dX4_longestWith_15 : decode cX4_longestWith 15 = .ok (.getfield 30, 3) := by decide +kernel
theorem dX4_longestWith_18 : decode cX4_longestWith 18 = .ok (.aload_n 0, 1) := by decide +kernel
theorem dX4_longestWith_19 : decode cX4_longestWith 19 = .ok (.getfield 10, 3) := by decide +kernel
theorem dX4_longestWith_22 : decode cX4_longestWith 22 = .ok (.aload_n 0, 1) := by decide +kernel
theorem dX4_longestWith_23 : decode cX4_longestWith 23 = .ok (.getfield 19, 3) := by decide +kernel
theorem dX4_longestWith_26 : decode cX4_longestWith 26 = .ok (.iload_n 1, 1) := by decide +kernel
theorem dX4_longestWith_27 : decode cX4_longestWith 27 = .ok (.iload_n 2, 1) := by decide +kernel
theorem dX4_longestWith_28 : decode cX4_longestWith 28 = .ok (.invokevirtual 97, 3) := by decide +kernel
theorem dX4_longestWith_31 : decode cX4_longestWith 31 = .ok (.aload_n 0, 1) := by decide +kernel
theorem dX4_longestWith_32 : decode cX4_longestWith 32 = .ok (.getfield 30, 3) := by decide +kernel
theorem dX4_longestWith_35 : decode cX4_longestWith 35 = .ok (.invokevirtual 122, 3) := by decide +kernel
theorem dX4_longestWith_38 : decode cX4_longestWith 38 = .ok (.ireturn, 1) := by decide +kernel
theorem dX4_meanArrival_0 : decode cX4_meanArrival 0 = .ok (.iconst 0, 1) := by decide +kernel
theorem dX4_meanArrival_1 : decode cX4_meanArrival 1 = .ok (.istore_n 1, 1) := by decide +kernel
theorem dX4_meanArrival_2 : decode cX4_meanArrival 2 = .ok (.iconst 0, 1) := by decide +kernel
theorem dX4_meanArrival_3 : decode cX4_meanArrival 3 = .ok (.istore_n 2, 1) := by decide +kernel
theorem dX4_meanArrival_4 : decode cX4_meanArrival 4 = .ok (.iconst 0, 1) := by decide +kernel
theorem dX4_meanArrival_5 : decode cX4_meanArrival 5 = .ok (.istore_n 3, 1) := by decide +kernel
theorem dX4_meanArrival_6 : decode cX4_meanArrival 6 = .ok (.iload_n 3, 1) := by decide +kernel
theorem dX4_meanArrival_7 : decode cX4_meanArrival 7 = .ok (.bipush 24, 2) := by decide +kernel
theorem dX4_meanArrival_9 : decode cX4_meanArrival 9 = .ok (.if_icmp .ge 49, 3) := by decide +kernel
theorem dX4_meanArrival_12 : decode cX4_meanArrival 12 = .ok (.aload_n 0, 1) := by decide +kernel
theorem dX4_meanArrival_13 : decode cX4_meanArrival 13 = .ok (.getfield 10, 3) := by decide +kernel
theorem dX4_meanArrival_16 : decode cX4_meanArrival 16 = .ok (.getfield 230, 3) := by decide +kernel
theorem dX4_meanArrival_19 : decode cX4_meanArrival 19 = .ok (.iload_n 3, 1) := by decide +kernel
theorem dX4_meanArrival_20 : decode cX4_meanArrival 20 = .ok (.iaload, 1) := by decide +kernel
theorem dX4_meanArrival_21 : decode cX4_meanArrival 21 = .ok (.ifCond .le 31, 3) := by decide +kernel
theorem dX4_meanArrival_24 : decode cX4_meanArrival 24 = .ok (.aload_n 0, 1) := by decide +kernel
theorem dX4_meanArrival_25 : decode cX4_meanArrival 25 = .ok (.getfield 26, 3) := by decide +kernel
theorem dX4_meanArrival_28 : decode cX4_meanArrival 28 = .ok (.getfield 119, 3) := by decide +kernel
theorem dX4_meanArrival_31 : decode cX4_meanArrival 31 = .ok (.iload_n 3, 1) := by decide +kernel
theorem dX4_meanArrival_32 : decode cX4_meanArrival 32 = .ok (.iaload, 1) := by decide +kernel
theorem dX4_meanArrival_33 : decode cX4_meanArrival 33 = .ok (.iconst (-1), 1) := by decide +kernel
theorem dX4_meanArrival_34 : decode cX4_meanArrival 34 = .ok (.if_icmp .eq 18, 3) := by decide +kernel
theorem dX4_meanArrival_37 : decode cX4_meanArrival 37 = .ok (.iload_n 1, 1) := by decide +kernel
theorem dX4_meanArrival_38 : decode cX4_meanArrival 38 = .ok (.aload_n 0, 1) := by decide +kernel
theorem dX4_meanArrival_39 : decode cX4_meanArrival 39 = .ok (.getfield 26, 3) := by decide +kernel
theorem dX4_meanArrival_42 : decode cX4_meanArrival 42 = .ok (.getfield 119, 3) := by decide +kernel
theorem dX4_meanArrival_45 : decode cX4_meanArrival 45 = .ok (.iload_n 3, 1) := by decide +kernel
theorem dX4_meanArrival_46 : decode cX4_meanArrival 46 = .ok (.iaload, 1) := by decide +kernel
theorem dX4_meanArrival_47 : decode cX4_meanArrival 47 = .ok (.iadd, 1) := by decide +kernel
theorem dX4_meanArrival_48 : decode cX4_meanArrival 48 = .ok (.istore_n 1, 1) := by decide +kernel
theorem dX4_meanArrival_49 : decode cX4_meanArrival 49 = .ok (.iinc 2 1, 3) := by decide +kernel
theorem dX4_meanArrival_52 : decode cX4_meanArrival 52 = .ok (.iinc 3 1, 3) := by decide +kernel
theorem dX4_meanArrival_55 : decode cX4_meanArrival 55 = .ok (.goto (-49), 3) := by decide +kernel
theorem dX4_meanArrival_58 : decode cX4_meanArrival 58 = .ok (.iload_n 2, 1) := by decide +kernel
theorem dX4_meanArrival_59 : decode cX4_meanArrival 59 = .ok (.ifCond .ne 7, 3) := by decide +kernel
theorem dX4_meanArrival_62 : decode cX4_meanArrival 62 = .ok (.dconst 0, 1) := by decide +kernel
theorem dX4_meanArrival_63 : decode cX4_meanArrival 63 = .ok (.goto 8, 3) := by decide +kernel
theorem dX4_meanArrival_66 : decode cX4_meanArrival 66 = .ok (.iload_n 1, 1) := by decide +kernel
theorem dX4_meanArrival_67 : decode cX4_meanArrival 67 = .ok (.i2d, 1) := by decide +kernel
theorem dX4_meanArrival_68 : decode cX4_meanArrival 68 = .ok (.iload_n 2, 1) := by decide +kernel
theorem dX4_meanArrival_69 : decode cX4_meanArrival 69 = .ok (.i2d, 1) := by decide +kernel
theorem dX4_meanArrival_70 : decode cX4_meanArrival 70 = .ok (.ddiv, 1) := by decide +kernel
theorem dX4_meanArrival_71 : decode cX4_meanArrival 71 = .ok (.dreturn, 1) := by decide +kernel
theorem dX4_digest_0 : decode cX4_digest 0 = .ok (.ldc2_w 233, 3) := by decide +kernel
theorem dX4_digest_3 : decode cX4_digest 3 = .ok (.lstore_n 1, 1) := by decide +kernel
theorem dX4_digest_4 : decode cX4_digest 4 = .ok (.lload_n 1, 1) := by decide +kernel
theorem dX4_digest_5 : decode cX4_digest 5 = .ok (.ldc2_w 235, 3) := by decide +kernel
theorem dX4_digest_8 : decode cX4_digest 8 = .ok (.lmul, 1) := by decide +kernel
theorem dX4_digest_9 : decode cX4_digest 9 = .ok (.aload_n 0, 1) := by decide +kernel
theorem dX4_digest_10 : decode cX4_digest 10 = .ok (.invokevirtual 237, 3) := by decide +kernel
theorem dX4_digest_13 : decode cX4_digest 13 = .ok (.i2l, 1) := by decide +kernel
theorem dX4_digest_14 : decode cX4_digest 14 = .ok (.ladd, 1) := by decide +kernel
theorem dX4_digest_15 : decode cX4_digest 15 = .ok (.lstore_n 1, 1) := by decide +kernel
theorem dX4_digest_16 : decode cX4_digest 16 = .ok (.lload_n 1, 1) := by decide +kernel
theorem dX4_digest_17 : decode cX4_digest 17 = .ok (.ldc2_w 235, 3) := by decide +kernel
theorem dX4_digest_20 : decode cX4_digest 20 = .ok (.lmul, 1) := by decide +kernel
theorem dX4_digest_21 : decode cX4_digest 21 = .ok (.aload_n 0, 1) := by decide +kernel
theorem dX4_digest_22 : decode cX4_digest 22 = .ok (.invokevirtual 240, 3) := by decide +kernel
theorem dX4_digest_25 : decode cX4_digest 25 = .ok (.i2l, 1) := by decide +kernel
theorem dX4_digest_26 : decode cX4_digest 26 = .ok (.ladd, 1) := by decide +kernel
theorem dX4_digest_27 : decode cX4_digest 27 = .ok (.lstore_n 1, 1) := by decide +kernel
theorem dX4_digest_28 : decode cX4_digest 28 = .ok (.lload_n 1, 1) := by decide +kernel
theorem dX4_digest_29 : decode cX4_digest 29 = .ok (.ldc2_w 235, 3) := by decide +kernel
theorem dX4_digest_32 : decode cX4_digest 32 = .ok (.lmul, 1) := by decide +kernel
theorem dX4_digest_33 : decode cX4_digest 33 = .ok (.aload_n 0, 1) := by decide +kernel
theorem dX4_digest_34 : decode cX4_digest 34 = .ok (.invokevirtual 243, 3) := by decide +kernel
theorem dX4_digest_37 : decode cX4_digest 37 = .ok (.i2l, 1) := by decide +kernel
theorem dX4_digest_38 : decode cX4_digest 38 = .ok (.ladd, 1) := by decide +kernel
theorem dX4_digest_39 : decode cX4_digest 39 = .ok (.lstore_n 1, 1) := by decide +kernel
theorem dX4_digest_40 : decode cX4_digest 40 = .ok (.lload_n 1, 1) := by decide +kernel
theorem dX4_digest_41 : decode cX4_digest 41 = .ok (.ldc2_w 235, 3) := by decide +kernel
theorem dX4_digest_44 : decode cX4_digest 44 = .ok (.lmul, 1) := by decide +kernel
theorem dX4_digest_45 : decode cX4_digest 45 = .ok (.aload_n 0, 1) := by decide +kernel
theorem dX4_digest_46 : decode cX4_digest 46 = .ok (.invokevirtual 246, 3) := by decide +kernel
theorem dX4_digest_49 : decode cX4_digest 49 = .ok (.ifCond .eq 7, 3) := by decide +kernel
theorem dX4_digest_52 : decode cX4_digest 52 = .ok (.iconst 1, 1) := by decide +kernel
theorem dX4_digest_53 : decode cX4_digest 53 = .ok (.goto 4, 3) := by decide +kernel
theorem dX4_digest_56 : decode cX4_digest 56 = .ok (.iconst 0, 1) := by decide +kernel
theorem dX4_digest_57 : decode cX4_digest 57 = .ok (.i2l, 1) := by decide +kernel
theorem dX4_digest_58 : decode cX4_digest 58 = .ok (.ladd, 1) := by decide +kernel
theorem dX4_digest_59 : decode cX4_digest 59 = .ok (.lstore_n 1, 1) := by decide +kernel
theorem dX4_digest_60 : decode cX4_digest 60 = .ok (.aload_n 0, 1) := by decide +kernel
theorem dX4_digest_61 : decode cX4_digest 61 = .ok (.lload_n 1, 1) := by decide +kernel
theorem dX4_digest_62 : decode cX4_digest 62 = .ok (.invokevirtual 250, 3) := by decide +kernel
theorem dX4_digest_65 : decode cX4_digest 65 = .ok (.lstore_n 1, 1) := by decide +kernel
theorem dX4_digest_66 : decode cX4_digest 66 = .ok (.aload_n 0, 1) := by decide +kernel
theorem dX4_digest_67 : decode cX4_digest 67 = .ok (.lload_n 1, 1) := by decide +kernel
theorem dX4_digest_68 : decode cX4_digest 68 = .ok (.invokevirtual 254, 3) := by decide +kernel
theorem dX4_digest_71 : decode cX4_digest 71 = .ok (.lstore_n 1, 1) := by decide +kernel
theorem dX4_digest_72 : decode cX4_digest 72 = .ok (.aload_n 0, 1) := by decide +kernel
theorem dX4_digest_73 : decode cX4_digest 73 = .ok (.lload_n 1, 1) := by decide +kernel
theorem dX4_digest_74 : decode cX4_digest 74 = .ok (.invokevirtual 257, 3) := by decide +kernel
theorem dX4_digest_77 : decode cX4_digest 77 = .ok (.lstore_n 1, 1) := by decide +kernel
theorem dX4_digest_78 : decode cX4_digest 78 = .ok (.aload_n 0, 1) := by decide +kernel
theorem dX4_digest_79 : decode cX4_digest 79 = .ok (.lload_n 1, 1) := by decide +kernel
theorem dX4_digest_80 : decode cX4_digest 80 = .ok (.invokevirtual 260, 3) := by decide +kernel
theorem dX4_digest_83 : decode cX4_digest 83 = .ok (.lstore_n 1, 1) := by decide +kernel
theorem dX4_digest_84 : decode cX4_digest 84 = .ok (.aload_n 0, 1) := by decide +kernel
theorem dX4_digest_85 : decode cX4_digest 85 = .ok (.getfield 45, 3) := by decide +kernel
theorem dX4_digest_88 : decode cX4_digest 88 = .ok (.ifCond .eq 17, 3) := by decide +kernel
theorem dX4_digest_91 : decode cX4_digest 91 = .ok (.lload_n 1, 1) := by decide +kernel
theorem dX4_digest_92 : decode cX4_digest 92 = .ok (.ldc2_w 235, 3) := by decide +kernel
theorem dX4_digest_95 : decode cX4_digest 95 = .ok (.lmul, 1) := by decide +kernel
theorem dX4_digest_96 : decode cX4_digest 96 = .ok (.aload_n 0, 1) := by decide +kernel
theorem dX4_digest_97 : decode cX4_digest 97 = .ok (.invokevirtual 263, 3) := by decide +kernel
theorem dX4_digest_100 : decode cX4_digest 100 = .ok (.i2l, 1) := by decide +kernel
theorem dX4_digest_101 : decode cX4_digest 101 = .ok (.ladd, 1) := by decide +kernel
theorem dX4_digest_102 : decode cX4_digest 102 = .ok (.goto 4, 3) := by decide +kernel
theorem dX4_digest_105 : decode cX4_digest 105 = .ok (.lload_n 1, 1) := by decide +kernel
theorem dX4_digest_106 : decode cX4_digest 106 = .ok (.lreturn, 1) := by decide +kernel
theorem dX4_digestOfTimes_0 : decode cX4_digestOfTimes 0 = .ok (.lload_n 1, 1) := by decide +kernel
theorem dX4_digestOfTimes_1 : decode cX4_digestOfTimes 1 = .ok (.lstore_n 3, 1) := by decide +kernel
theorem dX4_digestOfTimes_2 : decode cX4_digestOfTimes 2 = .ok (.iconst 0, 1) := by decide +kernel
theorem dX4_digestOfTimes_3 : decode cX4_digestOfTimes 3 = .ok (.istore 5, 2) := by decide +kernel
theorem dX4_digestOfTimes_5 : decode cX4_digestOfTimes 5 = .ok (.iload 5, 2) := by decide +kernel
theorem dX4_digestOfTimes_7 : decode cX4_digestOfTimes 7 = .ok (.iconst 5, 1) := by decide +kernel
theorem dX4_digestOfTimes_8 : decode cX4_digestOfTimes 8 = .ok (.if_icmp .gt 23, 3) := by decide +kernel
theorem dX4_digestOfTimes_11 : decode cX4_digestOfTimes 11 = .ok (.lload_n 3, 1) := by decide +kernel
theorem dX4_digestOfTimes_12 : decode cX4_digestOfTimes 12 = .ok (.ldc2_w 235, 3) := by decide +kernel
theorem dX4_digestOfTimes_15 : decode cX4_digestOfTimes 15 = .ok (.lmul, 1) := by decide +kernel
theorem dX4_digestOfTimes_16 : decode cX4_digestOfTimes 16 = .ok (.aload_n 0, 1) := by decide +kernel
theorem dX4_digestOfTimes_17 : decode cX4_digestOfTimes 17 = .ok (.iload 5, 2) := by decide +kernel
theorem dX4_digestOfTimes_19 : decode cX4_digestOfTimes 19 = .ok (.invokevirtual 266, 3) := by decide +kernel
theorem dX4_digestOfTimes_22 : decode cX4_digestOfTimes 22 = .ok (.i2l, 1) := by decide +kernel
theorem dX4_digestOfTimes_23 : decode cX4_digestOfTimes 23 = .ok (.ladd, 1) := by decide +kernel
theorem dX4_digestOfTimes_24 : decode cX4_digestOfTimes 24 = .ok (.lstore_n 3, 1) := by decide +kernel
theorem dX4_digestOfTimes_25 : decode cX4_digestOfTimes 25 = .ok (.iinc 5 1, 3) := by decide +kernel
theorem dX4_digestOfTimes_28 : decode cX4_digestOfTimes 28 = .ok (.goto (-23), 3) := by decide +kernel
theorem dX4_digestOfTimes_31 : decode cX4_digestOfTimes 31 = .ok (.lload_n 3, 1) := by decide +kernel
theorem dX4_digestOfTimes_32 : decode cX4_digestOfTimes 32 = .ok (.lreturn, 1) := by decide +kernel
theorem dX4_digestOfCircuit_0 : decode cX4_digestOfCircuit 0 = .ok (.lload_n 1, 1) := by decide +kernel
theorem dX4_digestOfCircuit_1 : decode cX4_digestOfCircuit 1 = .ok (.lstore_n 3, 1) := by decide +kernel
theorem dX4_digestOfCircuit_2 : decode cX4_digestOfCircuit 2 = .ok (.iconst 0, 1) := by decide +kernel
theorem dX4_digestOfCircuit_3 : decode cX4_digestOfCircuit 3 = .ok (.istore 5, 2) := by decide +kernel
theorem dX4_digestOfCircuit_5 : decode cX4_digestOfCircuit 5 = .ok (.iload 5, 2) := by decide +kernel
theorem dX4_digestOfCircuit_7 : decode cX4_digestOfCircuit 7 = .ok (.aload_n 0, 1) := by decide +kernel
theorem dX4_digestOfCircuit_8 : decode cX4_digestOfCircuit 8 = .ok (.getfield 19, 3) := by decide +kernel
theorem dX4_digestOfCircuit_11 : decode cX4_digestOfCircuit 11 = .ok (.getfield 105, 3) := by decide +kernel
theorem dX4_digestOfCircuit_14 : decode cX4_digestOfCircuit 14 = .ok (.if_icmp .ge 39, 3) := by decide +kernel
theorem dX4_digestOfCircuit_17 : decode cX4_digestOfCircuit 17 = .ok (.lload_n 3, 1) := by decide +kernel
theorem dX4_digestOfCircuit_18 : decode cX4_digestOfCircuit 18 = .ok (.ldc2_w 235, 3) := by decide +kernel
theorem dX4_digestOfCircuit_21 : decode cX4_digestOfCircuit 21 = .ok (.lmul, 1) := by decide +kernel
theorem dX4_digestOfCircuit_22 : decode cX4_digestOfCircuit 22 = .ok (.aload_n 0, 1) := by decide +kernel
theorem dX4_digestOfCircuit_23 : decode cX4_digestOfCircuit 23 = .ok (.iload 5, 2) := by decide +kernel
theorem dX4_digestOfCircuit_25 : decode cX4_digestOfCircuit 25 = .ok (.iconst 0, 1) := by decide +kernel
theorem dX4_digestOfCircuit_26 : decode cX4_digestOfCircuit 26 = .ok (.invokevirtual 269, 3) := by decide +kernel
theorem dX4_digestOfCircuit_29 : decode cX4_digestOfCircuit 29 = .ok (.i2l, 1) := by decide +kernel
theorem dX4_digestOfCircuit_30 : decode cX4_digestOfCircuit 30 = .ok (.ladd, 1) := by decide +kernel
theorem dX4_digestOfCircuit_31 : decode cX4_digestOfCircuit 31 = .ok (.lstore_n 3, 1) := by decide +kernel
theorem dX4_digestOfCircuit_32 : decode cX4_digestOfCircuit 32 = .ok (.lload_n 3, 1) := by decide +kernel
theorem dX4_digestOfCircuit_33 : decode cX4_digestOfCircuit 33 = .ok (.ldc2_w 235, 3) := by decide +kernel
theorem dX4_digestOfCircuit_36 : decode cX4_digestOfCircuit 36 = .ok (.lmul, 1) := by decide +kernel
theorem dX4_digestOfCircuit_37 : decode cX4_digestOfCircuit 37 = .ok (.aload_n 0, 1) := by decide +kernel
theorem dX4_digestOfCircuit_38 : decode cX4_digestOfCircuit 38 = .ok (.iload 5, 2) := by decide +kernel
theorem dX4_digestOfCircuit_40 : decode cX4_digestOfCircuit 40 = .ok (.iconst 1, 1) := by decide +kernel
theorem dX4_digestOfCircuit_41 : decode cX4_digestOfCircuit 41 = .ok (.invokevirtual 269, 3) := by decide +kernel
theorem dX4_digestOfCircuit_44 : decode cX4_digestOfCircuit 44 = .ok (.i2l, 1) := by decide +kernel
theorem dX4_digestOfCircuit_45 : decode cX4_digestOfCircuit 45 = .ok (.ladd, 1) := by decide +kernel
theorem dX4_digestOfCircuit_46 : decode cX4_digestOfCircuit 46 = .ok (.lstore_n 3, 1) := by decide +kernel
theorem dX4_digestOfCircuit_47 : decode cX4_digestOfCircuit 47 = .ok (.iinc 5 1, 3) := by decide +kernel
theorem dX4_digestOfCircuit_50 : decode cX4_digestOfCircuit 50 = .ok (.goto (-45), 3) := by decide +kernel
theorem dX4_digestOfCircuit_53 : decode cX4_digestOfCircuit 53 = .ok (.iconst 0, 1) := by decide +kernel
theorem dX4_digestOfCircuit_54 : decode cX4_digestOfCircuit 54 = .ok (.istore 5, 2) := by decide +kernel
theorem dX4_digestOfCircuit_56 : decode cX4_digestOfCircuit 56 = .ok (.iload 5, 2) := by decide +kernel
theorem dX4_digestOfCircuit_58 : decode cX4_digestOfCircuit 58 = .ok (.bipush 6, 2) := by decide +kernel
theorem dX4_digestOfCircuit_60 : decode cX4_digestOfCircuit 60 = .ok (.if_icmp .ge 23, 3) := by decide +kernel
theorem dX4_digestOfCircuit_63 : decode cX4_digestOfCircuit 63 = .ok (.lload_n 3, 1) := by decide +kernel
theorem dX4_digestOfCircuit_64 : decode cX4_digestOfCircuit 64 = .ok (.ldc2_w 235, 3) := by decide +kernel
theorem dX4_digestOfCircuit_67 : decode cX4_digestOfCircuit 67 = .ok (.lmul, 1) := by decide +kernel
theorem dX4_digestOfCircuit_68 : decode cX4_digestOfCircuit 68 = .ok (.aload_n 0, 1) := by decide +kernel
theorem dX4_digestOfCircuit_69 : decode cX4_digestOfCircuit 69 = .ok (.iload 5, 2) := by decide +kernel
theorem dX4_digestOfCircuit_71 : decode cX4_digestOfCircuit 71 = .ok (.invokevirtual 273, 3) := by decide +kernel
theorem dX4_digestOfCircuit_74 : decode cX4_digestOfCircuit 74 = .ok (.i2l, 1) := by decide +kernel
theorem dX4_digestOfCircuit_75 : decode cX4_digestOfCircuit 75 = .ok (.ladd, 1) := by decide +kernel
theorem dX4_digestOfCircuit_76 : decode cX4_digestOfCircuit 76 = .ok (.lstore_n 3, 1) := by decide +kernel
theorem dX4_digestOfCircuit_77 : decode cX4_digestOfCircuit 77 = .ok (.iinc 5 1, 3) := by decide +kernel
theorem dX4_digestOfCircuit_80 : decode cX4_digestOfCircuit 80 = .ok (.goto (-24), 3) := by decide +kernel
theorem dX4_digestOfCircuit_83 : decode cX4_digestOfCircuit 83 = .ok (.lload_n 3, 1) := by decide +kernel
theorem dX4_digestOfCircuit_84 : decode cX4_digestOfCircuit 84 = .ok (.lreturn, 1) := by decide +kernel
theorem dX4_digestOfWires_0 : decode cX4_digestOfWires 0 = .ok (.lload_n 1, 1) := by decide +kernel
theorem dX4_digestOfWires_1 : decode cX4_digestOfWires 1 = .ok (.lstore_n 3, 1) := by decide +kernel
theorem dX4_digestOfWires_2 : decode cX4_digestOfWires 2 = .ok (.iconst 0, 1) := by decide +kernel
theorem dX4_digestOfWires_3 : decode cX4_digestOfWires 3 = .ok (.istore 5, 2) := by decide +kernel
theorem dX4_digestOfWires_5 : decode cX4_digestOfWires 5 = .ok (.iload 5, 2) := by decide +kernel
theorem dX4_digestOfWires_7 : decode cX4_digestOfWires 7 = .ok (.bipush 24, 2) := by decide +kernel
theorem dX4_digestOfWires_9 : decode cX4_digestOfWires 9 = .ok (.if_icmp .ge 68, 3) := by decide +kernel
theorem dX4_digestOfWires_12 : decode cX4_digestOfWires 12 = .ok (.lload_n 3, 1) := by decide +kernel
theorem dX4_digestOfWires_13 : decode cX4_digestOfWires 13 = .ok (.ldc2_w 235, 3) := by decide +kernel
theorem dX4_digestOfWires_16 : decode cX4_digestOfWires 16 = .ok (.lmul, 1) := by decide +kernel
theorem dX4_digestOfWires_17 : decode cX4_digestOfWires 17 = .ok (.aload_n 0, 1) := by decide +kernel
theorem dX4_digestOfWires_18 : decode cX4_digestOfWires 18 = .ok (.iload 5, 2) := by decide +kernel
theorem dX4_digestOfWires_20 : decode cX4_digestOfWires 20 = .ok (.invokevirtual 276, 3) := by decide +kernel
theorem dX4_digestOfWires_23 : decode cX4_digestOfWires 23 = .ok (.i2l, 1) := by decide +kernel
theorem dX4_digestOfWires_24 : decode cX4_digestOfWires 24 = .ok (.ladd, 1) := by decide +kernel
theorem dX4_digestOfWires_25 : decode cX4_digestOfWires 25 = .ok (.lstore_n 3, 1) := by decide +kernel
theorem dX4_digestOfWires_26 : decode cX4_digestOfWires 26 = .ok (.lload_n 3, 1) := by decide +kernel
theorem dX4_digestOfWires_27 : decode cX4_digestOfWires 27 = .ok (.ldc2_w 235, 3) := by decide +kernel
theorem dX4_digestOfWires_30 : decode cX4_digestOfWires 30 = .ok (.lmul, 1) := by decide +kernel
theorem dX4_digestOfWires_31 : decode cX4_digestOfWires 31 = .ok (.aload_n 0, 1) := by decide +kernel
theorem dX4_digestOfWires_32 : decode cX4_digestOfWires 32 = .ok (.iload 5, 2) := by decide +kernel
theorem dX4_digestOfWires_34 : decode cX4_digestOfWires 34 = .ok (.invokevirtual 278, 3) := by decide +kernel
theorem dX4_digestOfWires_37 : decode cX4_digestOfWires 37 = .ok (.i2l, 1) := by decide +kernel
theorem dX4_digestOfWires_38 : decode cX4_digestOfWires 38 = .ok (.ladd, 1) := by decide +kernel
theorem dX4_digestOfWires_39 : decode cX4_digestOfWires 39 = .ok (.lstore_n 3, 1) := by decide +kernel
theorem dX4_digestOfWires_40 : decode cX4_digestOfWires 40 = .ok (.iconst 0, 1) := by decide +kernel
theorem dX4_digestOfWires_41 : decode cX4_digestOfWires 41 = .ok (.istore 6, 2) := by decide +kernel
theorem dX4_digestOfWires_43 : decode cX4_digestOfWires 43 = .ok (.iload 6, 2) := by decide +kernel
theorem dX4_digestOfWires_45 : decode cX4_digestOfWires 45 = .ok (.iconst 3, 1) := by decide +kernel
theorem dX4_digestOfWires_46 : decode cX4_digestOfWires 46 = .ok (.if_icmp .gt 25, 3) := by decide +kernel
theorem dX4_digestOfWires_49 : decode cX4_digestOfWires 49 = .ok (.lload_n 3, 1) := by decide +kernel
theorem dX4_digestOfWires_50 : decode cX4_digestOfWires 50 = .ok (.ldc2_w 235, 3) := by decide +kernel
theorem dX4_digestOfWires_53 : decode cX4_digestOfWires 53 = .ok (.lmul, 1) := by decide +kernel
theorem dX4_digestOfWires_54 : decode cX4_digestOfWires 54 = .ok (.aload_n 0, 1) := by decide +kernel
theorem dX4_digestOfWires_55 : decode cX4_digestOfWires 55 = .ok (.iload 5, 2) := by decide +kernel
theorem dX4_digestOfWires_57 : decode cX4_digestOfWires 57 = .ok (.iload 6, 2) := by decide +kernel
theorem dX4_digestOfWires_59 : decode cX4_digestOfWires 59 = .ok (.invokevirtual 280, 3) := by decide +kernel
theorem dX4_digestOfWires_62 : decode cX4_digestOfWires 62 = .ok (.i2l, 1) := by decide +kernel
theorem dX4_digestOfWires_63 : decode cX4_digestOfWires 63 = .ok (.ladd, 1) := by decide +kernel
theorem dX4_digestOfWires_64 : decode cX4_digestOfWires 64 = .ok (.lstore_n 3, 1) := by decide +kernel
theorem dX4_digestOfWires_65 : decode cX4_digestOfWires 65 = .ok (.iinc 6 1, 3) := by decide +kernel
theorem dX4_digestOfWires_68 : decode cX4_digestOfWires 68 = .ok (.goto (-25), 3) := by decide +kernel
theorem dX4_digestOfWires_71 : decode cX4_digestOfWires 71 = .ok (.iinc 5 1, 3) := by decide +kernel
theorem dX4_digestOfWires_74 : decode cX4_digestOfWires 74 = .ok (.goto (-69), 3) := by decide +kernel
theorem dX4_digestOfWires_77 : decode cX4_digestOfWires 77 = .ok (.lload_n 3, 1) := by decide +kernel
theorem dX4_digestOfWires_78 : decode cX4_digestOfWires 78 = .ok (.lreturn, 1) := by decide +kernel
theorem dX4_digestOfRun_0 : decode cX4_digestOfRun 0 = .ok (.lload_n 1, 1) := by decide +kernel
theorem dX4_digestOfRun_1 : decode cX4_digestOfRun 1 = .ok (.lstore_n 3, 1) := by decide +kernel
theorem dX4_digestOfRun_2 : decode cX4_digestOfRun 2 = .ok (.iconst 0, 1) := by decide +kernel
theorem dX4_digestOfRun_3 : decode cX4_digestOfRun 3 = .ok (.istore 5, 2) := by decide +kernel
theorem dX4_digestOfRun_5 : decode cX4_digestOfRun 5 = .ok (.iload 5, 2) := by decide +kernel
theorem dX4_digestOfRun_7 : decode cX4_digestOfRun 7 = .ok (.aload_n 0, 1) := by decide +kernel
theorem dX4_digestOfRun_8 : decode cX4_digestOfRun 8 = .ok (.getfield 10, 3) := by decide +kernel
theorem dX4_digestOfRun_11 : decode cX4_digestOfRun 11 = .ok (.getfield 101, 3) := by decide +kernel
theorem dX4_digestOfRun_14 : decode cX4_digestOfRun 14 = .ok (.if_icmp .ge 23, 3) := by decide +kernel
theorem dX4_digestOfRun_17 : decode cX4_digestOfRun 17 = .ok (.lload_n 3, 1) := by decide +kernel
theorem dX4_digestOfRun_18 : decode cX4_digestOfRun 18 = .ok (.ldc2_w 235, 3) := by decide +kernel
theorem dX4_digestOfRun_21 : decode cX4_digestOfRun 21 = .ok (.lmul, 1) := by decide +kernel
theorem dX4_digestOfRun_22 : decode cX4_digestOfRun 22 = .ok (.aload_n 0, 1) := by decide +kernel
theorem dX4_digestOfRun_23 : decode cX4_digestOfRun 23 = .ok (.iload 5, 2) := by decide +kernel
theorem dX4_digestOfRun_25 : decode cX4_digestOfRun 25 = .ok (.invokevirtual 283, 3) := by decide +kernel
theorem dX4_digestOfRun_28 : decode cX4_digestOfRun 28 = .ok (.i2l, 1) := by decide +kernel
theorem dX4_digestOfRun_29 : decode cX4_digestOfRun 29 = .ok (.ladd, 1) := by decide +kernel
theorem dX4_digestOfRun_30 : decode cX4_digestOfRun 30 = .ok (.lstore_n 3, 1) := by decide +kernel
theorem dX4_digestOfRun_31 : decode cX4_digestOfRun 31 = .ok (.iinc 5 1, 3) := by decide +kernel
theorem dX4_digestOfRun_34 : decode cX4_digestOfRun 34 = .ok (.goto (-29), 3) := by decide +kernel
theorem dX4_digestOfRun_37 : decode cX4_digestOfRun 37 = .ok (.lload_n 3, 1) := by decide +kernel
theorem dX4_digestOfRun_38 : decode cX4_digestOfRun 38 = .ok (.ldc2_w 235, 3) := by decide +kernel
theorem dX4_digestOfRun_41 : decode cX4_digestOfRun 41 = .ok (.lmul, 1) := by decide +kernel
theorem dX4_digestOfRun_42 : decode cX4_digestOfRun 42 = .ok (.aload_n 0, 1) := by decide +kernel
theorem dX4_digestOfRun_43 : decode cX4_digestOfRun 43 = .ok (.invokevirtual 286, 3) := by decide +kernel
theorem dX4_digestOfRun_46 : decode cX4_digestOfRun 46 = .ok (.i2l, 1) := by decide +kernel
theorem dX4_digestOfRun_47 : decode cX4_digestOfRun 47 = .ok (.ladd, 1) := by decide +kernel
theorem dX4_digestOfRun_48 : decode cX4_digestOfRun 48 = .ok (.lstore_n 3, 1) := by decide +kernel
theorem dX4_digestOfRun_49 : decode cX4_digestOfRun 49 = .ok (.iconst 0, 1) := by decide +kernel
theorem dX4_digestOfRun_50 : decode cX4_digestOfRun 50 = .ok (.istore 5, 2) := by decide +kernel
theorem dX4_digestOfRun_52 : decode cX4_digestOfRun 52 = .ok (.iload 5, 2) := by decide +kernel
theorem dX4_digestOfRun_54 : decode cX4_digestOfRun 54 = .ok (.aload_n 0, 1) := by decide +kernel
theorem dX4_digestOfRun_55 : decode cX4_digestOfRun 55 = .ok (.getfield 38, 3) := by decide +kernel
theorem dX4_digestOfRun_58 : decode cX4_digestOfRun 58 = .ok (.getfield 209, 3) := by decide +kernel
theorem dX4_digestOfRun_61 : decode cX4_digestOfRun 61 = .ok (.if_icmp .ge 40, 3) := by decide +kernel
theorem dX4_digestOfRun_64 : decode cX4_digestOfRun 64 = .ok (.iconst 0, 1) := by decide +kernel
theorem dX4_digestOfRun_65 : decode cX4_digestOfRun 65 = .ok (.istore 6, 2) := by decide +kernel
theorem dX4_digestOfRun_67 : decode cX4_digestOfRun 67 = .ok (.iload 6, 2) := by decide +kernel
theorem dX4_digestOfRun_69 : decode cX4_digestOfRun 69 = .ok (.iconst 2, 1) := by decide +kernel
theorem dX4_digestOfRun_70 : decode cX4_digestOfRun 70 = .ok (.if_icmp .gt 25, 3) := by decide +kernel
theorem dX4_digestOfRun_73 : decode cX4_digestOfRun 73 = .ok (.lload_n 3, 1) := by decide +kernel
theorem dX4_digestOfRun_74 : decode cX4_digestOfRun 74 = .ok (.ldc2_w 235, 3) := by decide +kernel
theorem dX4_digestOfRun_77 : decode cX4_digestOfRun 77 = .ok (.lmul, 1) := by decide +kernel
theorem dX4_digestOfRun_78 : decode cX4_digestOfRun 78 = .ok (.aload_n 0, 1) := by decide +kernel
theorem dX4_digestOfRun_79 : decode cX4_digestOfRun 79 = .ok (.iload 5, 2) := by decide +kernel
theorem dX4_digestOfRun_81 : decode cX4_digestOfRun 81 = .ok (.iload 6, 2) := by decide +kernel
theorem dX4_digestOfRun_83 : decode cX4_digestOfRun 83 = .ok (.invokevirtual 289, 3) := by decide +kernel
theorem dX4_digestOfRun_86 : decode cX4_digestOfRun 86 = .ok (.i2l, 1) := by decide +kernel
theorem dX4_digestOfRun_87 : decode cX4_digestOfRun 87 = .ok (.ladd, 1) := by decide +kernel
theorem dX4_digestOfRun_88 : decode cX4_digestOfRun 88 = .ok (.lstore_n 3, 1) := by decide +kernel
theorem dX4_digestOfRun_89 : decode cX4_digestOfRun 89 = .ok (.iinc 6 1, 3) := by decide +kernel
theorem dX4_digestOfRun_92 : decode cX4_digestOfRun 92 = .ok (.goto (-25), 3) := by decide +kernel
theorem dX4_digestOfRun_95 : decode cX4_digestOfRun 95 = .ok (.iinc 5 1, 3) := by decide +kernel
theorem dX4_digestOfRun_98 : decode cX4_digestOfRun 98 = .ok (.goto (-46), 3) := by decide +kernel
theorem dX4_digestOfRun_101 : decode cX4_digestOfRun 101 = .ok (.lload_n 3, 1) := by decide +kernel
theorem dX4_digestOfRun_102 : decode cX4_digestOfRun 102 = .ok (.lreturn, 1) := by decide +kernel
theorem dX4_addLine_0 : decode cX4_addLine 0 = .ok (.aload_n 0, 1) := by decide +kernel
theorem dX4_addLine_1 : decode cX4_addLine 1 = .ok (.getfield 10, 3) := by decide +kernel
theorem dX4_addLine_4 : decode cX4_addLine 4 = .ok (.iload_n 1, 1) := by decide +kernel
theorem dX4_addLine_5 : decode cX4_addLine 5 = .ok (.iload_n 2, 1) := by decide +kernel
theorem dX4_addLine_6 : decode cX4_addLine 6 = .ok (.iload_n 3, 1) := by decide +kernel
theorem dX4_addLine_7 : decode cX4_addLine 7 = .ok (.iload 4, 2) := by decide +kernel
theorem dX4_addLine_9 : decode cX4_addLine 9 = .ok (.iload 5, 2) := by decide +kernel
theorem dX4_addLine_11 : decode cX4_addLine 11 = .ok (.iload 6, 2) := by decide +kernel
theorem dX4_addLine_13 : decode cX4_addLine 13 = .ok (.invokevirtual 292, 3) := by decide +kernel
theorem dX4_addLine_16 : decode cX4_addLine 16 = .ok (.istore 7, 2) := by decide +kernel
theorem dX4_addLine_18 : decode cX4_addLine 18 = .ok (.aload_n 0, 1) := by decide +kernel
theorem dX4_addLine_19 : decode cX4_addLine 19 = .ok (.iconst 0, 1) := by decide +kernel
theorem dX4_addLine_20 : decode cX4_addLine 20 = .ok (.putfield 45, 3) := by decide +kernel
theorem dX4_addLine_23 : decode cX4_addLine 23 = .ok (.aload_n 0, 1) := by decide +kernel
theorem dX4_addLine_24 : decode cX4_addLine 24 = .ok (.getfield 19, 3) := by decide +kernel
theorem dX4_addLine_27 : decode cX4_addLine 27 = .ok (.aload_n 0, 1) := by decide +kernel
theorem dX4_addLine_28 : decode cX4_addLine 28 = .ok (.getfield 10, 3) := by decide +kernel
theorem dX4_addLine_31 : decode cX4_addLine 31 = .ok (.invokevirtual 295, 3) := by decide +kernel
theorem dX4_addLine_34 : decode cX4_addLine 34 = .ok (.aload_n 0, 1) := by decide +kernel
theorem dX4_addLine_35 : decode cX4_addLine 35 = .ok (.getfield 26, 3) := by decide +kernel
theorem dX4_addLine_38 : decode cX4_addLine 38 = .ok (.aload_n 0, 1) := by decide +kernel
theorem dX4_addLine_39 : decode cX4_addLine 39 = .ok (.getfield 10, 3) := by decide +kernel
theorem dX4_addLine_42 : decode cX4_addLine 42 = .ok (.aload_n 0, 1) := by decide +kernel
theorem dX4_addLine_43 : decode cX4_addLine 43 = .ok (.getfield 19, 3) := by decide +kernel
theorem dX4_addLine_46 : decode cX4_addLine 46 = .ok (.iconst (-1), 1) := by decide +kernel
theorem dX4_addLine_47 : decode cX4_addLine 47 = .ok (.iconst 0, 1) := by decide +kernel
theorem dX4_addLine_48 : decode cX4_addLine 48 = .ok (.invokevirtual 97, 3) := by decide +kernel
theorem dX4_addLine_51 : decode cX4_addLine 51 = .ok (.iload 7, 2) := by decide +kernel
theorem dX4_addLine_53 : decode cX4_addLine 53 = .ok (.ireturn, 1) := by decide +kernel
theorem dX4_isWire_0 : decode cX4_isWire 0 = .ok (.iload_n 0, 1) := by decide +kernel
theorem dX4_isWire_1 : decode cX4_isWire 1 = .ok (.ifCond .lt 13, 3) := by decide +kernel
theorem dX4_isWire_4 : decode cX4_isWire 4 = .ok (.iload_n 0, 1) := by decide +kernel
theorem dX4_isWire_5 : decode cX4_isWire 5 = .ok (.bipush 24, 2) := by decide +kernel
theorem dX4_isWire_7 : decode cX4_isWire 7 = .ok (.if_icmp .ge 7, 3) := by decide +kernel
theorem dX4_isWire_10 : decode cX4_isWire 10 = .ok (.iconst 1, 1) := by decide +kernel
theorem dX4_isWire_11 : decode cX4_isWire 11 = .ok (.goto 4, 3) := by decide +kernel
theorem dX4_isWire_14 : decode cX4_isWire 14 = .ok (.iconst 0, 1) := by decide +kernel
theorem dX4_isWire_15 : decode cX4_isWire 15 = .ok (.ireturn, 1) := by decide +kernel
theorem dX4_isWithin_0 : decode cX4_isWithin 0 = .ok (.iload_n 0, 1) := by decide +kernel
theorem dX4_isWithin_1 : decode cX4_isWithin 1 = .ok (.ifCond .lt 12, 3) := by decide +kernel
theorem dX4_isWithin_4 : decode cX4_isWithin 4 = .ok (.iload_n 0, 1) := by decide +kernel
theorem dX4_isWithin_5 : decode cX4_isWithin 5 = .ok (.iload_n 1, 1) := by decide +kernel
theorem dX4_isWithin_6 : decode cX4_isWithin 6 = .ok (.if_icmp .gt 7, 3) := by decide +kernel
theorem dX4_isWithin_9 : decode cX4_isWithin 9 = .ok (.iconst 1, 1) := by decide +kernel
theorem dX4_isWithin_10 : decode cX4_isWithin 10 = .ok (.goto 4, 3) := by decide +kernel
theorem dX4_isWithin_13 : decode cX4_isWithin 13 = .ok (.iconst 0, 1) := by decide +kernel
theorem dX4_isWithin_14 : decode cX4_isWithin 14 = .ok (.ireturn, 1) := by decide +kernel
theorem dX4_checkWire_0 : decode cX4_checkWire 0 = .ok (.iload_n 0, 1) := by decide +kernel
theorem dX4_checkWire_1 : decode cX4_checkWire 1 = .ok (.invokestatic 298, 3) := by decide +kernel
theorem dX4_checkWire_4 : decode cX4_checkWire 4 = .ok (.ifCond .ne 14, 3) := by decide +kernel
theorem dX4_checkWire_7 : decode cX4_checkWire 7 = .ok (.new 106, 3) := by decide +kernel
theorem dX4_checkWire_10 : decode cX4_checkWire 10 = .ok (.dup, 1) := by decide +kernel
theorem dX4_checkWire_11 : decode cX4_checkWire 11 = .ok (.ldc_w 302, 3) := by decide +kernel
theorem dX4_checkWire_14 : decode cX4_checkWire 14 = .ok (.invokespecial 110, 3) := by decide +kernel
theorem dX4_checkWire_17 : decode cX4_checkWire 17 = .ok (.athrow, 1) := by decide +kernel
theorem dX4_checkWire_18 : decode cX4_checkWire 18 = .ok (.return_, 1) := by decide +kernel
theorem dX4_checkDelay_0 : decode cX4_checkDelay 0 = .ok (.iload_n 0, 1) := by decide +kernel
theorem dX4_checkDelay_1 : decode cX4_checkDelay 1 = .ok (.bipush 20, 2) := by decide +kernel
theorem dX4_checkDelay_3 : decode cX4_checkDelay 3 = .ok (.invokestatic 79, 3) := by decide +kernel
theorem dX4_checkDelay_6 : decode cX4_checkDelay 6 = .ok (.ifCond .ne 14, 3) := by decide +kernel
theorem dX4_checkDelay_9 : decode cX4_checkDelay 9 = .ok (.new 60, 3) := by decide +kernel
theorem dX4_checkDelay_12 : decode cX4_checkDelay 12 = .ok (.dup, 1) := by decide +kernel
theorem dX4_checkDelay_13 : decode cX4_checkDelay 13 = .ok (.ldc_w 304, 3) := by decide +kernel
theorem dX4_checkDelay_16 : decode cX4_checkDelay 16 = .ok (.invokespecial 64, 3) := by decide +kernel
theorem dX4_checkDelay_19 : decode cX4_checkDelay 19 = .ok (.athrow, 1) := by decide +kernel
theorem dX4_checkDelay_20 : decode cX4_checkDelay 20 = .ok (.return_, 1) := by decide +kernel
theorem dX4_checkRoom_0 : decode cX4_checkRoom 0 = .ok (.aload_n 0, 1) := by decide +kernel
theorem dX4_checkRoom_1 : decode cX4_checkRoom 1 = .ok (.getfield 10, 3) := by decide +kernel
theorem dX4_checkRoom_4 : decode cX4_checkRoom 4 = .ok (.getfield 101, 3) := by decide +kernel
theorem dX4_checkRoom_7 : decode cX4_checkRoom 7 = .ok (.bipush 30, 2) := by decide +kernel
theorem dX4_checkRoom_9 : decode cX4_checkRoom 9 = .ok (.if_icmp .lt 14, 3) := by decide +kernel
theorem dX4_checkRoom_12 : decode cX4_checkRoom 12 = .ok (.new 146, 3) := by decide +kernel
theorem dX4_checkRoom_15 : decode cX4_checkRoom 15 = .ok (.dup, 1) := by decide +kernel
theorem dX4_checkRoom_16 : decode cX4_checkRoom 16 = .ok (.ldc_w 306, 3) := by decide +kernel
theorem dX4_checkRoom_19 : decode cX4_checkRoom 19 = .ok (.invokespecial 150, 3) := by decide +kernel
theorem dX4_checkRoom_22 : decode cX4_checkRoom 22 = .ok (.athrow, 1) := by decide +kernel
theorem dX4_checkRoom_23 : decode cX4_checkRoom 23 = .ok (.return_, 1) := by decide +kernel
theorem dX4_checkLine_0 : decode cX4_checkLine 0 = .ok (.iload_n 1, 1) := by decide +kernel
theorem dX4_checkLine_1 : decode cX4_checkLine 1 = .ok (.ifCond .lt 14, 3) := by decide +kernel
theorem dX4_checkLine_4 : decode cX4_checkLine 4 = .ok (.iload_n 1, 1) := by decide +kernel
theorem dX4_checkLine_5 : decode cX4_checkLine 5 = .ok (.aload_n 0, 1) := by decide +kernel
theorem dX4_checkLine_6 : decode cX4_checkLine 6 = .ok (.getfield 10, 3) := by decide +kernel
theorem dX4_checkLine_9 : decode cX4_checkLine 9 = .ok (.getfield 101, 3) := by decide +kernel
theorem dX4_checkLine_12 : decode cX4_checkLine 12 = .ok (.if_icmp .lt 14, 3) := by decide +kernel
theorem dX4_checkLine_15 : decode cX4_checkLine 15 = .ok (.new 106, 3) := by decide +kernel
theorem dX4_checkLine_18 : decode cX4_checkLine 18 = .ok (.dup, 1) := by decide +kernel
theorem dX4_checkLine_19 : decode cX4_checkLine 19 = .ok (.ldc_w 308, 3) := by decide +kernel
theorem dX4_checkLine_22 : decode cX4_checkLine 22 = .ok (.invokespecial 110, 3) := by decide +kernel
theorem dX4_checkLine_25 : decode cX4_checkLine 25 = .ok (.athrow, 1) := by decide +kernel
theorem dX4_checkLine_26 : decode cX4_checkLine 26 = .ok (.return_, 1) := by decide +kernel
theorem dX4_checkHasDelay_0 : decode cX4_checkHasDelay 0 = .ok (.aload_n 0, 1) := by decide +kernel
theorem dX4_checkHasDelay_1 : decode cX4_checkHasDelay 1 = .ok (.getfield 10, 3) := by decide +kernel
theorem dX4_checkHasDelay_4 : decode cX4_checkHasDelay 4 = .ok (.getfield 73, 3) := by decide +kernel
theorem dX4_checkHasDelay_7 : decode cX4_checkHasDelay 7 = .ok (.iload_n 1, 1) := by decide +kernel
theorem dX4_checkHasDelay_8 : decode cX4_checkHasDelay 8 = .ok (.iaload, 1) := by decide +kernel
theorem dX4_checkHasDelay_9 : decode cX4_checkHasDelay 9 = .ok (.bipush 8, 2) := by decide +kernel
theorem dX4_checkHasDelay_11 : decode cX4_checkHasDelay 11 = .ok (.if_icmp .ne 14, 3) := by decide +kernel
theorem dX4_checkHasDelay_14 : decode cX4_checkHasDelay 14 = .ok (.new 60, 3) := by decide +kernel
theorem dX4_checkHasDelay_17 : decode cX4_checkHasDelay 17 = .ok (.dup, 1) := by decide +kernel
theorem dX4_checkHasDelay_18 : decode cX4_checkHasDelay 18 = .ok (.ldc_w 310, 3) := by decide +kernel
theorem dX4_checkHasDelay_21 : decode cX4_checkHasDelay 21 = .ok (.invokespecial 64, 3) := by decide +kernel
theorem dX4_checkHasDelay_24 : decode cX4_checkHasDelay 24 = .ok (.athrow, 1) := by decide +kernel
theorem dX4_checkHasDelay_25 : decode cX4_checkHasDelay 25 = .ok (.return_, 1) := by decide +kernel
theorem dX4_checkRunning_0 : decode cX4_checkRunning 0 = .ok (.aload_n 0, 1) := by decide +kernel
theorem dX4_checkRunning_1 : decode cX4_checkRunning 1 = .ok (.getfield 45, 3) := by decide +kernel
theorem dX4_checkRunning_4 : decode cX4_checkRunning 4 = .ok (.ifCond .ne 14, 3) := by decide +kernel
theorem dX4_checkRunning_7 : decode cX4_checkRunning 7 = .ok (.new 146, 3) := by decide +kernel
theorem dX4_checkRunning_10 : decode cX4_checkRunning 10 = .ok (.dup, 1) := by decide +kernel
theorem dX4_checkRunning_11 : decode cX4_checkRunning 11 = .ok (.ldc_w 312, 3) := by decide +kernel
theorem dX4_checkRunning_14 : decode cX4_checkRunning 14 = .ok (.invokespecial 150, 3) := by decide +kernel
theorem dX4_checkRunning_17 : decode cX4_checkRunning 17 = .ok (.athrow, 1) := by decide +kernel
theorem dX4_checkRunning_18 : decode cX4_checkRunning 18 = .ok (.return_, 1) := by decide +kernel
theorem dX4_checkSetting_0 : decode cX4_checkSetting 0 = .ok (.aload_n 0, 1) := by decide +kernel
theorem dX4_checkSetting_1 : decode cX4_checkSetting 1 = .ok (.getfield 10, 3) := by decide +kernel
theorem dX4_checkSetting_4 : decode cX4_checkSetting 4 = .ok (.iload_n 1, 1) := by decide +kernel
theorem dX4_checkSetting_5 : decode cX4_checkSetting 5 = .ok (.bipush 8, 2) := by decide +kernel
theorem dX4_checkSetting_7 : decode cX4_checkSetting 7 = .ok (.invokevirtual 314, 3) := by decide +kernel
theorem dX4_checkSetting_10 : decode cX4_checkSetting 10 = .ok (.ifCond .ne 14, 3) := by decide +kernel
theorem dX4_checkSetting_13 : decode cX4_checkSetting 13 = .ok (.new 60, 3) := by decide +kernel
theorem dX4_checkSetting_16 : decode cX4_checkSetting 16 = .ok (.dup, 1) := by decide +kernel
theorem dX4_checkSetting_17 : decode cX4_checkSetting 17 = .ok (.ldc_w 317, 3) := by decide +kernel
theorem dX4_checkSetting_20 : decode cX4_checkSetting 20 = .ok (.invokespecial 64, 3) := by decide +kernel
theorem dX4_checkSetting_23 : decode cX4_checkSetting 23 = .ok (.athrow, 1) := by decide +kernel
theorem dX4_checkSetting_24 : decode cX4_checkSetting 24 = .ok (.iload_n 2, 1) := by decide +kernel
theorem dX4_checkSetting_25 : decode cX4_checkSetting 25 = .ok (.ifCond .eq 19, 3) := by decide +kernel
theorem dX4_checkSetting_28 : decode cX4_checkSetting 28 = .ok (.iload_n 2, 1) := by decide +kernel
theorem dX4_checkSetting_29 : decode cX4_checkSetting 29 = .ok (.iconst 1, 1) := by decide +kernel
theorem dX4_checkSetting_30 : decode cX4_checkSetting 30 = .ok (.if_icmp .eq 14, 3) := by decide +kernel
theorem dX4_checkSetting_33 : decode cX4_checkSetting 33 = .ok (.new 60, 3) := by decide +kernel
theorem dX4_checkSetting_36 : decode cX4_checkSetting 36 = .ok (.dup, 1) := by decide +kernel
theorem dX4_checkSetting_37 : decode cX4_checkSetting 37 = .ok (.ldc_w 319, 3) := by decide +kernel
theorem dX4_checkSetting_40 : decode cX4_checkSetting 40 = .ok (.invokespecial 64, 3) := by decide +kernel
theorem dX4_checkSetting_43 : decode cX4_checkSetting 43 = .ok (.athrow, 1) := by decide +kernel
theorem dX4_checkSetting_44 : decode cX4_checkSetting 44 = .ok (.return_, 1) := by decide +kernel
theorem dX5_init_0 : decode cX5_init 0 = .ok (.aload_n 0, 1) := by decide +kernel
theorem dX5_init_1 : decode cX5_init 1 = .ok (.invokespecial 3, 3) := by decide +kernel
theorem dX5_init_4 : decode cX5_init 4 = .ok (.aload_n 0, 1) := by decide +kernel
theorem dX5_init_5 : decode cX5_init 5 = .ok (.bipush 30, 2) := by decide +kernel
theorem dX5_init_7 : decode cX5_init 7 = .ok (.newarray .int, 2) := by decide +kernel
theorem dX5_init_9 : decode cX5_init 9 = .ok (.putfield 9, 3) := by decide +kernel
theorem dX5_init_12 : decode cX5_init 12 = .ok (.aload_n 0, 1) := by decide +kernel
theorem dX5_init_13 : decode cX5_init 13 = .ok (.bipush 30, 2) := by decide +kernel
theorem dX5_init_15 : decode cX5_init 15 = .ok (.newarray .int, 2) := by decide +kernel
theorem dX5_init_17 : decode cX5_init 17 = .ok (.putfield 13, 3) := by decide +kernel
theorem dX5_init_20 : decode cX5_init 20 = .ok (.aload_n 0, 1) := by decide +kernel
theorem dX5_init_21 : decode cX5_init 21 = .ok (.bipush 30, 2) := by decide +kernel
theorem dX5_init_23 : decode cX5_init 23 = .ok (.newarray .int, 2) := by decide +kernel
theorem dX5_init_25 : decode cX5_init 25 = .ok (.putfield 16, 3) := by decide +kernel
theorem dX5_init_28 : decode cX5_init 28 = .ok (.aload_n 0, 1) := by decide +kernel
theorem dX5_init_29 : decode cX5_init 29 = .ok (.bipush 30, 2) := by decide +kernel
theorem dX5_init_31 : decode cX5_init 31 = .ok (.newarray .int, 2) := by decide +kernel
theorem dX5_init_33 : decode cX5_init 33 = .ok (.putfield 19, 3) := by decide +kernel
theorem dX5_init_36 : decode cX5_init 36 = .ok (.aload_n 0, 1) := by decide +kernel
theorem dX5_init_37 : decode cX5_init 37 = .ok (.bipush 30, 2) := by decide +kernel
theorem dX5_init_39 : decode cX5_init 39 = .ok (.newarray .int, 2) := by decide +kernel
theorem dX5_init_41 : decode cX5_init 41 = .ok (.putfield 22, 3) := by decide +kernel
theorem dX5_init_44 : decode cX5_init 44 = .ok (.aload_n 0, 1) := by decide +kernel
theorem dX5_init_45 : decode cX5_init 45 = .ok (.bipush 30, 2) := by decide +kernel
theorem dX5_init_47 : decode cX5_init 47 = .ok (.newarray .int, 2) := by decide +kernel
theorem dX5_init_49 : decode cX5_init 49 = .ok (.putfield 25, 3) := by decide +kernel
theorem dX5_init_52 : decode cX5_init 52 = .ok (.aload_n 0, 1) := by decide +kernel
theorem dX5_init_53 : decode cX5_init 53 = .ok (.bipush 30, 2) := by decide +kernel
theorem dX5_init_55 : decode cX5_init 55 = .ok (.newarray .int, 2) := by decide +kernel
theorem dX5_init_57 : decode cX5_init 57 = .ok (.putfield 28, 3) := by decide +kernel
theorem dX5_init_60 : decode cX5_init 60 = .ok (.aload_n 0, 1) := by decide +kernel
theorem dX5_init_61 : decode cX5_init 61 = .ok (.bipush 30, 2) := by decide +kernel
theorem dX5_init_63 : decode cX5_init 63 = .ok (.newarray .int, 2) := by decide +kernel
theorem dX5_init_65 : decode cX5_init 65 = .ok (.putfield 31, 3) := by decide +kernel
theorem dX5_init_68 : decode cX5_init 68 = .ok (.aload_n 0, 1) := by decide +kernel
theorem dX5_init_69 : decode cX5_init 69 = .ok (.sipush 342, 3) := by decide +kernel
theorem dX5_init_72 : decode cX5_init 72 = .ok (.newarray .int, 2) := by decide +kernel
theorem dX5_init_74 : decode cX5_init 74 = .ok (.putfield 34, 3) := by decide +kernel
theorem dX5_init_77 : decode cX5_init 77 = .ok (.aload_n 0, 1) := by decide +kernel
theorem dX5_init_78 : decode cX5_init 78 = .ok (.bipush 108, 2) := by decide +kernel
theorem dX5_init_80 : decode cX5_init 80 = .ok (.newarray .int, 2) := by decide +kernel
theorem dX5_init_82 : decode cX5_init 82 = .ok (.putfield 37, 3) := by decide +kernel
theorem dX5_init_85 : decode cX5_init 85 = .ok (.aload_n 0, 1) := by decide +kernel
theorem dX5_init_86 : decode cX5_init 86 = .ok (.bipush 24, 2) := by decide +kernel
theorem dX5_init_88 : decode cX5_init 88 = .ok (.newarray .int, 2) := by decide +kernel
theorem dX5_init_90 : decode cX5_init 90 = .ok (.putfield 40, 3) := by decide +kernel
theorem dX5_init_93 : decode cX5_init 93 = .ok (.aload_n 0, 1) := by decide +kernel
theorem dX5_init_94 : decode cX5_init 94 = .ok (.bipush 24, 2) := by decide +kernel
theorem dX5_init_96 : decode cX5_init 96 = .ok (.newarray .boolean, 2) := by decide +kernel
theorem dX5_init_98 : decode cX5_init 98 = .ok (.putfield 43, 3) := by decide +kernel
theorem dX5_init_101 : decode cX5_init 101 = .ok (.aload_n 0, 1) := by decide +kernel
theorem dX5_init_102 : decode cX5_init 102 = .ok (.invokevirtual 47, 3) := by decide +kernel
theorem dX5_init_105 : decode cX5_init 105 = .ok (.return_, 1) := by decide +kernel
theorem dX5_thrown_0 : decode cX5_thrown 0 = .ok (.aload_n 0, 1) := by decide +kernel
theorem dX5_thrown_1 : decode cX5_thrown 1 = .ok (.getfield 50, 3) := by decide +kernel
theorem dX5_thrown_4 : decode cX5_thrown 4 = .ok (.ireturn, 1) := by decide +kernel
theorem dX5_no_0 : decode cX5_no 0 = .ok (.aload_n 0, 1) := by decide +kernel
theorem dX5_no_1 : decode cX5_no 1 = .ok (.iload_n 1, 1) := by decide +kernel
theorem dX5_no_2 : decode cX5_no 2 = .ok (.putfield 50, 3) := by decide +kernel
theorem dX5_no_5 : decode cX5_no 5 = .ok (.iconst 0, 1) := by decide +kernel
theorem dX5_no_6 : decode cX5_no 6 = .ok (.ireturn, 1) := by decide +kernel
theorem dX5_ok_0 : decode cX5_ok 0 = .ok (.aload_n 0, 1) := by decide +kernel
theorem dX5_ok_1 : decode cX5_ok 1 = .ok (.iconst 0, 1) := by decide +kernel
theorem dX5_ok_2 : decode cX5_ok 2 = .ok (.putfield 50, 3) := by decide +kernel
theorem dX5_ok_5 : decode cX5_ok 5 = .ok (.iload_n 1, 1) := by decide +kernel
theorem dX5_ok_6 : decode cX5_ok 6 = .ok (.ireturn, 1) := by decide +kernel
theorem dX5_isIn_0 : decode cX5_isIn 0 = .ok (.iload_n 0, 1) := by decide +kernel
theorem dX5_isIn_1 : decode cX5_isIn 1 = .ok (.iload_n 1, 1) := by decide +kernel
theorem dX5_isIn_2 : decode cX5_isIn 2 = .ok (.if_icmp .lt 12, 3) := by decide +kernel
theorem dX5_isIn_5 : decode cX5_isIn 5 = .ok (.iload_n 0, 1) := by decide +kernel
theorem dX5_isIn_6 : decode cX5_isIn 6 = .ok (.iload_n 2, 1) := by decide +kernel
theorem dX5_isIn_7 : decode cX5_isIn 7 = .ok (.if_icmp .gt 7, 3) := by decide +kernel
theorem dX5_isIn_10 : decode cX5_isIn 10 = .ok (.iconst 1, 1) := by decide +kernel
theorem dX5_isIn_11 : decode cX5_isIn 11 = .ok (.goto 4, 3) := by decide +kernel
theorem dX5_isIn_14 : decode cX5_isIn 14 = .ok (.iconst 0, 1) := by decide +kernel
theorem dX5_isIn_15 : decode cX5_isIn 15 = .ok (.ireturn, 1) := by decide +kernel
theorem dX5_isWire_0 : decode cX5_isWire 0 = .ok (.iload_n 0, 1) := by decide +kernel
theorem dX5_isWire_1 : decode cX5_isWire 1 = .ok (.iconst 0, 1) := by decide +kernel
theorem dX5_isWire_2 : decode cX5_isWire 2 = .ok (.bipush 23, 2) := by decide +kernel
theorem dX5_isWire_4 : decode cX5_isWire 4 = .ok (.invokestatic 54, 3) := by decide +kernel
theorem dX5_isWire_7 : decode cX5_isWire 7 = .ok (.ireturn, 1) := by decide +kernel
theorem dX5_isLine_0 : decode cX5_isLine 0 = .ok (.iload_n 1, 1) := by decide +kernel
theorem dX5_isLine_1 : decode cX5_isLine 1 = .ok (.iconst 0, 1) := by decide +kernel
theorem dX5_isLine_2 : decode cX5_isLine 2 = .ok (.aload_n 0, 1) := by decide +kernel
theorem dX5_isLine_3 : decode cX5_isLine 3 = .ok (.getfield 58, 3) := by decide +kernel
theorem dX5_isLine_6 : decode cX5_isLine 6 = .ok (.iconst 1, 1) := by decide +kernel
theorem dX5_isLine_7 : decode cX5_isLine 7 = .ok (.isub, 1) := by decide +kernel
theorem dX5_isLine_8 : decode cX5_isLine 8 = .ok (.invokestatic 54, 3) := by decide +kernel
theorem dX5_isLine_11 : decode cX5_isLine 11 = .ok (.ireturn, 1) := by decide +kernel
theorem dX5_clear_0 : decode cX5_clear 0 = .ok (.aload_n 0, 1) := by decide +kernel
theorem dX5_clear_1 : decode cX5_clear 1 = .ok (.sipush 342, 3) := by decide +kernel
theorem dX5_clear_4 : decode cX5_clear 4 = .ok (.newarray .int, 2) := by decide +kernel
theorem dX5_clear_6 : decode cX5_clear 6 = .ok (.putfield 34, 3) := by decide +kernel
theorem dX5_clear_9 : decode cX5_clear 9 = .ok (.iconst 0, 1) := by decide +kernel
theorem dX5_clear_10 : decode cX5_clear 10 = .ok (.istore_n 1, 1) := by decide +kernel
theorem dX5_clear_11 : decode cX5_clear 11 = .ok (.iload_n 1, 1) := by decide +kernel
theorem dX5_clear_12 : decode cX5_clear 12 = .ok (.bipush 24, 2) := by decide +kernel
theorem dX5_clear_14 : decode cX5_clear 14 = .ok (.if_icmp .ge 39, 3) := by decide +kernel
theorem dX5_clear_17 : decode cX5_clear 17 = .ok (.aload_n 0, 1) := by decide +kernel
theorem dX5_clear_18 : decode cX5_clear 18 = .ok (.getfield 34, 3) := by decide +kernel
theorem dX5_clear_21 : decode cX5_clear 21 = .ok (.bipush 6, 2) := by decide +kernel
theorem dX5_clear_23 : decode cX5_clear 23 = .ok (.iload_n 1, 1) := by decide +kernel
theorem dX5_clear_24 : decode cX5_clear 24 = .ok (.iadd, 1) := by decide +kernel
theorem dX5_clear_25 : decode cX5_clear 25 = .ok (.iconst 2, 1) := by decide +kernel
theorem dX5_clear_26 : decode cX5_clear 26 = .ok (.iastore, 1) := by decide +kernel
theorem dX5_clear_27 : decode cX5_clear 27 = .ok (.aload_n 0, 1) := by decide +kernel
theorem dX5_clear_28 : decode cX5_clear 28 = .ok (.getfield 34, 3) := by decide +kernel
theorem dX5_clear_31 : decode cX5_clear 31 = .ok (.bipush 30, 2) := by decide +kernel
theorem dX5_clear_33 : decode cX5_clear 33 = .ok (.iload_n 1, 1) := by decide +kernel
theorem dX5_clear_34 : decode cX5_clear 34 = .ok (.iadd, 1) := by decide +kernel
theorem dX5_clear_35 : decode cX5_clear 35 = .ok (.iconst (-1), 1) := by decide +kernel
theorem dX5_clear_36 : decode cX5_clear 36 = .ok (.iastore, 1) := by decide +kernel
theorem dX5_clear_37 : decode cX5_clear 37 = .ok (.aload_n 0, 1) := by decide +kernel
theorem dX5_clear_38 : decode cX5_clear 38 = .ok (.getfield 34, 3) := by decide +kernel
theorem dX5_clear_41 : decode cX5_clear 41 = .ok (.bipush 78, 2) := by decide +kernel
theorem dX5_clear_43 : decode cX5_clear 43 = .ok (.iload_n 1, 1) := by decide +kernel
theorem dX5_clear_44 : decode cX5_clear 44 = .ok (.iadd, 1) := by decide +kernel
theorem dX5_clear_45 : decode cX5_clear 45 = .ok (.iconst 2, 1) := by decide +kernel
theorem dX5_clear_46 : decode cX5_clear 46 = .ok (.iastore, 1) := by decide +kernel
theorem dX5_clear_47 : decode cX5_clear 47 = .ok (.iinc 1 1, 3) := by decide +kernel
theorem dX5_clear_50 : decode cX5_clear 50 = .ok (.goto (-39), 3) := by decide +kernel
theorem dX5_clear_53 : decode cX5_clear 53 = .ok (.iconst 0, 1) := by decide +kernel
theorem dX5_clear_54 : decode cX5_clear 54 = .ok (.istore_n 1, 1) := by decide +kernel
theorem dX5_clear_55 : decode cX5_clear 55 = .ok (.iload_n 1, 1) := by decide +kernel
theorem dX5_clear_56 : decode cX5_clear 56 = .ok (.bipush 30, 2) := by decide +kernel
theorem dX5_clear_58 : decode cX5_clear 58 = .ok (.if_icmp .ge 30, 3) := by decide +kernel
theorem dX5_clear_61 : decode cX5_clear 61 = .ok (.aload_n 0, 1) := by decide +kernel
theorem dX5_clear_62 : decode cX5_clear 62 = .ok (.getfield 34, 3) := by decide +kernel
theorem dX5_clear_65 : decode cX5_clear 65 = .ok (.bipush 102, 2) := by decide +kernel
theorem dX5_clear_67 : decode cX5_clear 67 = .ok (.iload_n 1, 1) := by decide +kernel
theorem dX5_clear_68 : decode cX5_clear 68 = .ok (.iadd, 1) := by decide +kernel
theorem dX5_clear_69 : decode cX5_clear 69 = .ok (.iconst (-1), 1) := by decide +kernel
theorem dX5_clear_70 : decode cX5_clear 70 = .ok (.iastore, 1) := by decide +kernel
theorem dX5_clear_71 : decode cX5_clear 71 = .ok (.aload_n 0, 1) := by decide +kernel
theorem dX5_clear_72 : decode cX5_clear 72 = .ok (.getfield 34, 3) := by decide +kernel
theorem dX5_clear_75 : decode cX5_clear 75 = .ok (.sipush 192, 3) := by decide +kernel
theorem dX5_clear_78 : decode cX5_clear 78 = .ok (.iload_n 1, 1) := by decide +kernel
theorem dX5_clear_79 : decode cX5_clear 79 = .ok (.iadd, 1) := by decide +kernel
theorem dX5_clear_80 : decode cX5_clear 80 = .ok (.iconst (-1), 1) := by decide +kernel
theorem dX5_clear_81 : decode cX5_clear 81 = .ok (.iastore, 1) := by decide +kernel
theorem dX5_clear_82 : decode cX5_clear 82 = .ok (.iinc 1 1, 3) := by decide +kernel
theorem dX5_clear_85 : decode cX5_clear 85 = .ok (.goto (-30), 3) := by decide +kernel
theorem dX5_clear_88 : decode cX5_clear 88 = .ok (.return_, 1) := by decide +kernel
theorem dX5_many_0 : decode cX5_many 0 = .ok (.iload_n 0, 1) := by decide +kernel
theorem dX5_many_1 : decode cX5_many 1 = .ok (.iconst 2, 1) := by decide +kernel
theorem dX5_many_2 : decode cX5_many 2 = .ok (.if_icmp .ge 7, 3) := by decide +kernel
theorem dX5_many_5 : decode cX5_many 5 = .ok (.iconst 1, 1) := by decide +kernel
theorem dX5_many_6 : decode cX5_many 6 = .ok (.goto 14, 3) := by decide +kernel
theorem dX5_many_9 : decode cX5_many 9 = .ok (.iload_n 0, 1) := by decide +kernel
theorem dX5_many_10 : decode cX5_many 10 = .ok (.bipush 7, 2) := by decide +kernel
theorem dX5_many_12 : decode cX5_many 12 = .ok (.if_icmp .ge 7, 3) := by decide +kernel
theorem dX5_many_15 : decode cX5_many 15 = .ok (.iconst 2, 1) := by decide +kernel
theorem dX5_many_16 : decode cX5_many 16 = .ok (.goto 4, 3) := by decide +kernel
theorem dX5_many_19 : decode cX5_many 19 = .ok (.iconst 3, 1) := by decide +kernel
theorem dX5_many_20 : decode cX5_many 20 = .ok (.ireturn, 1) := by decide +kernel
theorem dX5_add_0 : decode cX5_add 0 = .ok (.aload_n 0, 1) := by decide +kernel
theorem dX5_add_1 : decode cX5_add 1 = .ok (.iconst 0, 1) := by decide +kernel
theorem dX5_add_2 : decode cX5_add 2 = .ok (.putfield 61, 3) := by decide +kernel
theorem dX5_add_5 : decode cX5_add 5 = .ok (.aload_n 0, 1) := by decide +kernel
theorem dX5_add_6 : decode cX5_add 6 = .ok (.getfield 9, 3) := by decide +kernel
theorem dX5_add_9 : decode cX5_add 9 = .ok (.aload_n 0, 1) := by decide +kernel
theorem dX5_add_10 : decode cX5_add 10 = .ok (.getfield 58, 3) := by decide +kernel
theorem dX5_add_13 : decode cX5_add 13 = .ok (.iload_n 1, 1) := by decide +kernel
theorem dX5_add_14 : decode cX5_add 14 = .ok (.iastore, 1) := by decide +kernel
theorem dX5_add_15 : decode cX5_add 15 = .ok (.aload_n 0, 1) := by decide +kernel
theorem dX5_add_16 : decode cX5_add 16 = .ok (.getfield 13, 3) := by decide +kernel
theorem dX5_add_19 : decode cX5_add 19 = .ok (.aload_n 0, 1) := by decide +kernel
theorem dX5_add_20 : decode cX5_add 20 = .ok (.getfield 58, 3) := by decide +kernel
theorem dX5_add_23 : decode cX5_add 23 = .ok (.iload_n 2, 1) := by decide +kernel
theorem dX5_add_24 : decode cX5_add 24 = .ok (.iastore, 1) := by decide +kernel
theorem dX5_add_25 : decode cX5_add 25 = .ok (.aload_n 0, 1) := by decide +kernel
theorem dX5_add_26 : decode cX5_add 26 = .ok (.getfield 16, 3) := by decide +kernel
theorem dX5_add_29 : decode cX5_add 29 = .ok (.aload_n 0, 1) := by decide +kernel
theorem dX5_add_30 : decode cX5_add 30 = .ok (.getfield 58, 3) := by decide +kernel
theorem dX5_add_33 : decode cX5_add 33 = .ok (.iload_n 3, 1) := by decide +kernel
theorem dX5_add_34 : decode cX5_add 34 = .ok (.iastore, 1) := by decide +kernel
theorem dX5_add_35 : decode cX5_add 35 = .ok (.aload_n 0, 1) := by decide +kernel
theorem dX5_add_36 : decode cX5_add 36 = .ok (.getfield 19, 3) := by decide +kernel
theorem dX5_add_39 : decode cX5_add 39 = .ok (.aload_n 0, 1) := by decide +kernel
theorem dX5_add_40 : decode cX5_add 40 = .ok (.getfield 58, 3) := by decide +kernel
theorem dX5_add_43 : decode cX5_add 43 = .ok (.iload 4, 2) := by decide +kernel
theorem dX5_add_45 : decode cX5_add 45 = .ok (.iastore, 1) := by decide +kernel
theorem dX5_add_46 : decode cX5_add 46 = .ok (.aload_n 0, 1) := by decide +kernel
theorem dX5_add_47 : decode cX5_add 47 = .ok (.getfield 22, 3) := by decide +kernel
theorem dX5_add_50 : decode cX5_add 50 = .ok (.aload_n 0, 1) := by decide +kernel
theorem dX5_add_51 : decode cX5_add 51 = .ok (.getfield 58, 3) := by decide +kernel
theorem dX5_add_54 : decode cX5_add 54 = .ok (.iload 5, 2) := by decide +kernel
theorem dX5_add_56 : decode cX5_add 56 = .ok (.iastore, 1) := by decide +kernel
theorem dX5_add_57 : decode cX5_add 57 = .ok (.aload_n 0, 1) := by decide +kernel
theorem dX5_add_58 : decode cX5_add 58 = .ok (.getfield 25, 3) := by decide +kernel
theorem dX5_add_61 : decode cX5_add 61 = .ok (.aload_n 0, 1) := by decide +kernel
theorem dX5_add_62 : decode cX5_add 62 = .ok (.getfield 58, 3) := by decide +kernel
theorem dX5_add_65 : decode cX5_add 65 = .ok (.iload 6, 2) := by decide +kernel
theorem dX5_add_67 : decode cX5_add 67 = .ok (.iastore, 1) := by decide +kernel
theorem dX5_add_68 : decode cX5_add 68 = .ok (.aload_n 0, 1) := by decide +kernel
theorem dX5_add_69 : decode cX5_add 69 = .ok (.dup, 1) := by decide +kernel
theorem dX5_add_70 : decode cX5_add 70 = .ok (.getfield 58, 3) := by decide +kernel
theorem dX5_add_73 : decode cX5_add 73 = .ok (.dup_x1, 1) := by decide +kernel
theorem dX5_add_74 : decode cX5_add 74 = .ok (.iconst 1, 1) := by decide +kernel
theorem dX5_add_75 : decode cX5_add 75 = .ok (.iadd, 1) := by decide +kernel
theorem dX5_add_76 : decode cX5_add 76 = .ok (.putfield 58, 3) := by decide +kernel
theorem dX5_add_79 : decode cX5_add 79 = .ok (.ireturn, 1) := by decide +kernel
theorem dX5_input_0 : decode cX5_input 0 = .ok (.aload_n 0, 1) := by decide +kernel
theorem dX5_input_1 : decode cX5_input 1 = .ok (.iconst 0, 1) := by decide +kernel
theorem dX5_input_2 : decode cX5_input 2 = .ok (.putfield 50, 3) := by decide +kernel
theorem dX5_input_5 : decode cX5_input 5 = .ok (.iload_n 1, 1) := by decide +kernel
theorem dX5_input_6 : decode cX5_input 6 = .ok (.invokestatic 65, 3) := by decide +kernel
theorem dX5_input_9 : decode cX5_input 9 = .ok (.ifCond .ne 9, 3) := by decide +kernel
theorem dX5_input_12 : decode cX5_input 12 = .ok (.aload_n 0, 1) := by decide +kernel
theorem dX5_input_13 : decode cX5_input 13 = .ok (.iconst 1, 1) := by decide +kernel
theorem dX5_input_14 : decode cX5_input 14 = .ok (.invokevirtual 69, 3) := by decide +kernel
theorem dX5_input_17 : decode cX5_input 17 = .ok (.ireturn, 1) := by decide +kernel
theorem dX5_input_18 : decode cX5_input 18 = .ok (.aload_n 0, 1) := by decide +kernel
theorem dX5_input_19 : decode cX5_input 19 = .ok (.getfield 58, 3) := by decide +kernel
theorem dX5_input_22 : decode cX5_input 22 = .ok (.bipush 30, 2) := by decide +kernel
theorem dX5_input_24 : decode cX5_input 24 = .ok (.if_icmp .ne 11, 3) := by decide +kernel
theorem dX5_input_27 : decode cX5_input 27 = .ok (.aload_n 0, 1) := by decide +kernel
theorem dX5_input_28 : decode cX5_input 28 = .ok (.iconst 2, 1) := by decide +kernel
theorem dX5_input_29 : decode cX5_input 29 = .ok (.invokevirtual 69, 3) := by decide +kernel
theorem dX5_input_32 : decode cX5_input 32 = .ok (.goto 13, 3) := by decide +kernel
theorem dX5_input_35 : decode cX5_input 35 = .ok (.aload_n 0, 1) := by decide +kernel
theorem dX5_input_36 : decode cX5_input 36 = .ok (.iconst (-1), 1) := by decide +kernel
theorem dX5_input_37 : decode cX5_input 37 = .ok (.iload_n 1, 1) := by decide +kernel
theorem dX5_input_38 : decode cX5_input 38 = .ok (.iconst (-1), 1) := by decide +kernel
theorem dX5_input_39 : decode cX5_input 39 = .ok (.iconst (-1), 1) := by decide +kernel
theorem dX5_input_40 : decode cX5_input 40 = .ok (.iconst (-1), 1) := by decide +kernel
theorem dX5_input_41 : decode cX5_input 41 = .ok (.iconst 0, 1) := by decide +kernel
theorem dX5_input_42 : decode cX5_input 42 = .ok (.invokevirtual 73, 3) := by decide +kernel
theorem dX5_input_45 : decode cX5_input 45 = .ok (.ireturn, 1) := by decide +kernel
theorem dX5_gate_0 : decode cX5_gate 0 = .ok (.aload_n 0, 1) := by decide +kernel
theorem dX5_gate_1 : decode cX5_gate 1 = .ok (.iconst 0, 1) := by decide +kernel
theorem dX5_gate_2 : decode cX5_gate 2 = .ok (.putfield 50, 3) := by decide +kernel
theorem dX5_gate_5 : decode cX5_gate 5 = .ok (.iload_n 1, 1) := by decide +kernel
theorem dX5_gate_6 : decode cX5_gate 6 = .ok (.iconst 0, 1) := by decide +kernel
theorem dX5_gate_7 : decode cX5_gate 7 = .ok (.bipush 7, 2) := by decide +kernel
theorem dX5_gate_9 : decode cX5_gate 9 = .ok (.invokestatic 54, 3) := by decide +kernel
theorem dX5_gate_12 : decode cX5_gate 12 = .ok (.ifCond .eq 14, 3) := by decide +kernel
theorem dX5_gate_15 : decode cX5_gate 15 = .ok (.iload 6, 2) := by decide +kernel
theorem dX5_gate_17 : decode cX5_gate 17 = .ok (.iconst 0, 1) := by decide +kernel
theorem dX5_gate_18 : decode cX5_gate 18 = .ok (.bipush 20, 2) := by decide +kernel
theorem dX5_gate_20 : decode cX5_gate 20 = .ok (.invokestatic 54, 3) := by decide +kernel
theorem dX5_gate_23 : decode cX5_gate 23 = .ok (.ifCond .ne 9, 3) := by decide +kernel
theorem dX5_gate_26 : decode cX5_gate 26 = .ok (.aload_n 0, 1) := by decide +kernel
theorem dX5_gate_27 : decode cX5_gate 27 = .ok (.iconst 1, 1) := by decide +kernel
theorem dX5_gate_28 : decode cX5_gate 28 = .ok (.invokevirtual 69, 3) := by decide +kernel
theorem dX5_gate_31 : decode cX5_gate 31 = .ok (.ireturn, 1) := by decide +kernel
theorem dX5_gate_32 : decode cX5_gate 32 = .ok (.iload_n 1, 1) := by decide +kernel
theorem dX5_gate_33 : decode cX5_gate 33 = .ok (.invokestatic 77, 3) := by decide +kernel
theorem dX5_gate_36 : decode cX5_gate 36 = .ok (.istore 7, 2) := by decide +kernel
theorem dX5_gate_38 : decode cX5_gate 38 = .ok (.iload_n 2, 1) := by decide +kernel
theorem dX5_gate_39 : decode cX5_gate 39 = .ok (.invokestatic 65, 3) := by decide +kernel
theorem dX5_gate_42 : decode cX5_gate 42 = .ok (.ifCond .eq 38, 3) := by decide +kernel
theorem dX5_gate_45 : decode cX5_gate 45 = .ok (.iload_n 3, 1) := by decide +kernel
theorem dX5_gate_46 : decode cX5_gate 46 = .ok (.invokestatic 65, 3) := by decide +kernel
theorem dX5_gate_49 : decode cX5_gate 49 = .ok (.ifCond .eq 31, 3) := by decide +kernel
theorem dX5_gate_52 : decode cX5_gate 52 = .ok (.iload 7, 2) := by decide +kernel
theorem dX5_gate_54 : decode cX5_gate 54 = .ok (.iconst 1, 1) := by decide +kernel
theorem dX5_gate_55 : decode cX5_gate 55 = .ok (.if_icmp .le 11, 3) := by decide +kernel
theorem dX5_gate_58 : decode cX5_gate 58 = .ok (.iload 4, 2) := by decide +kernel
theorem dX5_gate_60 : decode cX5_gate 60 = .ok (.invokestatic 65, 3) := by decide +kernel
theorem dX5_gate_63 : decode cX5_gate 63 = .ok (.ifCond .eq 17, 3) := by decide +kernel
theorem dX5_gate_66 : decode cX5_gate 66 = .ok (.iload 7, 2) := by decide +kernel
theorem dX5_gate_68 : decode cX5_gate 68 = .ok (.iconst 2, 1) := by decide +kernel
theorem dX5_gate_69 : decode cX5_gate 69 = .ok (.if_icmp .le 17, 3) := by decide +kernel
theorem dX5_gate_72 : decode cX5_gate 72 = .ok (.iload 5, 2) := by decide +kernel
theorem dX5_gate_74 : decode cX5_gate 74 = .ok (.invokestatic 65, 3) := by decide +kernel
theorem dX5_gate_77 : decode cX5_gate 77 = .ok (.ifCond .ne 9, 3) := by decide +kernel
theorem dX5_gate_80 : decode cX5_gate 80 = .ok (.aload_n 0, 1) := by decide +kernel
theorem dX5_gate_81 : decode cX5_gate 81 = .ok (.iconst 2, 1) := by decide +kernel
theorem dX5_gate_82 : decode cX5_gate 82 = .ok (.invokevirtual 69, 3) := by decide +kernel
theorem dX5_gate_85 : decode cX5_gate 85 = .ok (.ireturn, 1) := by decide +kernel
theorem dX5_gate_86 : decode cX5_gate 86 = .ok (.aload_n 0, 1) := by decide +kernel
theorem dX5_gate_87 : decode cX5_gate 87 = .ok (.getfield 58, 3) := by decide +kernel
theorem dX5_gate_90 : decode cX5_gate 90 = .ok (.bipush 30, 2) := by decide +kernel
theorem dX5_gate_92 : decode cX5_gate 92 = .ok (.if_icmp .ne 11, 3) := by decide +kernel
theorem dX5_gate_95 : decode cX5_gate 95 = .ok (.aload_n 0, 1) := by decide +kernel
theorem dX5_gate_96 : decode cX5_gate 96 = .ok (.iconst 3, 1) := by decide +kernel
theorem dX5_gate_97 : decode cX5_gate 97 = .ok (.invokevirtual 69, 3) := by decide +kernel
theorem dX5_gate_100 : decode cX5_gate 100 = .ok (.goto 36, 3) := by decide +kernel
theorem dX5_gate_103 : decode cX5_gate 103 = .ok (.aload_n 0, 1) := by decide +kernel
theorem dX5_gate_104 : decode cX5_gate 104 = .ok (.iload_n 1, 1) := by decide +kernel
theorem dX5_gate_105 : decode cX5_gate 105 = .ok (.iload_n 2, 1) := by decide +kernel
theorem dX5_gate_106 : decode cX5_gate 106 = .ok (.iload_n 3, 1) := by decide +kernel
theorem dX5_gate_107 : decode cX5_gate 107 = .ok (.iload 7, 2) := by decide +kernel
theorem dX5_gate_109 : decode cX5_gate 109 = .ok (.iconst 1, 1) := by decide +kernel
theorem dX5_gate_110 : decode cX5_gate 110 = .ok (.if_icmp .le 8, 3) := by decide +kernel
theorem dX5_gate_113 : decode cX5_gate 113 = .ok (.iload 4, 2) := by decide +kernel
theorem dX5_gate_115 : decode cX5_gate 115 = .ok (.goto 4, 3) := by decide +kernel
theorem dX5_gate_118 : decode cX5_gate 118 = .ok (.iconst (-1), 1) := by decide +kernel
theorem dX5_gate_119 : decode cX5_gate 119 = .ok (.iload 7, 2) := by decide +kernel
theorem dX5_gate_121 : decode cX5_gate 121 = .ok (.iconst 2, 1) := by decide +kernel
theorem dX5_gate_122 : decode cX5_gate 122 = .ok (.if_icmp .le 8, 3) := by decide +kernel
theorem dX5_gate_125 : decode cX5_gate 125 = .ok (.iload 5, 2) := by decide +kernel
theorem dX5_gate_127 : decode cX5_gate 127 = .ok (.goto 4, 3) := by decide +kernel
theorem dX5_gate_130 : decode cX5_gate 130 = .ok (.iconst (-1), 1) := by decide +kernel
theorem dX5_gate_131 : decode cX5_gate 131 = .ok (.iload 6, 2) := by decide +kernel
theorem dX5_gate_133 : decode cX5_gate 133 = .ok (.invokevirtual 73, 3) := by decide +kernel
theorem dX5_gate_136 : decode cX5_gate 136 = .ok (.ireturn, 1) := by decide +kernel
theorem dX5_register_0 : decode cX5_register 0 = .ok (.aload_n 0, 1) := by decide +kernel
theorem dX5_register_1 : decode cX5_register 1 = .ok (.iconst 0, 1) := by decide +kernel
theorem dX5_register_2 : decode cX5_register 2 = .ok (.putfield 50, 3) := by decide +kernel
theorem dX5_register_5 : decode cX5_register 5 = .ok (.iload_n 1, 1) := by decide +kernel
theorem dX5_register_6 : decode cX5_register 6 = .ok (.invokestatic 65, 3) := by decide +kernel
theorem dX5_register_9 : decode cX5_register 9 = .ok (.ifCond .eq 31, 3) := by decide +kernel
theorem dX5_register_12 : decode cX5_register 12 = .ok (.iload_n 2, 1) := by decide +kernel
theorem dX5_register_13 : decode cX5_register 13 = .ok (.invokestatic 65, 3) := by decide +kernel
theorem dX5_register_16 : decode cX5_register 16 = .ok (.ifCond .eq 24, 3) := by decide +kernel
theorem dX5_register_19 : decode cX5_register 19 = .ok (.iload_n 3, 1) := by decide +kernel
theorem dX5_register_20 : decode cX5_register 20 = .ok (.invokestatic 65, 3) := by decide +kernel
theorem dX5_register_23 : decode cX5_register 23 = .ok (.ifCond .eq 17, 3) := by decide +kernel
theorem dX5_register_26 : decode cX5_register 26 = .ok (.iload 4, 2) := by decide +kernel
theorem dX5_register_28 : decode cX5_register 28 = .ok (.iconst (-1), 1) := by decide +kernel
theorem dX5_register_29 : decode cX5_register 29 = .ok (.if_icmp .eq 17, 3) := by decide +kernel
theorem dX5_register_32 : decode cX5_register 32 = .ok (.iload 4, 2) := by decide +kernel
theorem dX5_register_34 : decode cX5_register 34 = .ok (.invokestatic 65, 3) := by decide +kernel
theorem dX5_register_37 : decode cX5_register 37 = .ok (.ifCond .ne 9, 3) := by decide +kernel
theorem dX5_register_40 : decode cX5_register 40 = .ok (.aload_n 0, 1) := by decide +kernel
theorem dX5_register_41 : decode cX5_register 41 = .ok (.iconst 1, 1) := by decide +kernel
theorem dX5_register_42 : decode cX5_register 42 = .ok (.invokevirtual 69, 3) := by decide +kernel
theorem dX5_register_45 : decode cX5_register 45 = .ok (.ireturn, 1) := by decide +kernel
theorem dX5_register_46 : decode cX5_register 46 = .ok (.iload 5, 2) := by decide +kernel
theorem dX5_register_48 : decode cX5_register 48 = .ok (.iconst 0, 1) := by decide +kernel
theorem dX5_register_49 : decode cX5_register 49 = .ok (.bipush 20, 2) := by decide +kernel
theorem dX5_register_51 : decode cX5_register 51 = .ok (.invokestatic 54, 3) := by decide +kernel
theorem dX5_register_54 : decode cX5_register 54 = .ok (.ifCond .ne 9, 3) := by decide +kernel
theorem dX5_register_57 : decode cX5_register 57 = .ok (.aload_n 0, 1) := by decide +kernel
theorem dX5_register_58 : decode cX5_register 58 = .ok (.iconst 2, 1) := by decide +kernel
theorem dX5_register_59 : decode cX5_register 59 = .ok (.invokevirtual 69, 3) := by decide +kernel
theorem dX5_register_62 : decode cX5_register 62 = .ok (.ireturn, 1) := by decide +kernel
theorem dX5_register_63 : decode cX5_register 63 = .ok (.aload_n 0, 1) := by decide +kernel
theorem dX5_register_64 : decode cX5_register 64 = .ok (.getfield 58, 3) := by decide +kernel
theorem dX5_register_67 : decode cX5_register 67 = .ok (.bipush 30, 2) := by decide +kernel
theorem dX5_register_69 : decode cX5_register 69 = .ok (.if_icmp .ne 11, 3) := by decide +kernel
theorem dX5_register_72 : decode cX5_register 72 = .ok (.aload_n 0, 1) := by decide +kernel
theorem dX5_register_73 : decode cX5_register 73 = .ok (.iconst 3, 1) := by decide +kernel
theorem dX5_register_74 : decode cX5_register 74 = .ok (.invokevirtual 69, 3) := by decide +kernel
theorem dX5_register_77 : decode cX5_register 77 = .ok (.goto 16, 3) := by decide +kernel
theorem dX5_register_80 : decode cX5_register 80 = .ok (.aload_n 0, 1) := by decide +kernel
theorem dX5_register_81 : decode cX5_register 81 = .ok (.bipush (-2), 2) := by decide +kernel
theorem dX5_register_83 : decode cX5_register 83 = .ok (.iload_n 1, 1) := by decide +kernel
theorem dX5_register_84 : decode cX5_register 84 = .ok (.iload_n 2, 1) := by decide +kernel
theorem dX5_register_85 : decode cX5_register 85 = .ok (.iload_n 3, 1) := by decide +kernel
theorem dX5_register_86 : decode cX5_register 86 = .ok (.iload 4, 2) := by decide +kernel
theorem dX5_register_88 : decode cX5_register 88 = .ok (.iload 5, 2) := by decide +kernel
theorem dX5_register_90 : decode cX5_register 90 = .ok (.invokevirtual 73, 3) := by decide +kernel
theorem dX5_register_93 : decode cX5_register 93 = .ok (.ireturn, 1) := by decide +kernel
theorem dX5_setWindow_0 : decode cX5_setWindow 0 = .ok (.aload_n 0, 1) := by decide +kernel
theorem dX5_setWindow_1 : decode cX5_setWindow 1 = .ok (.iconst 0, 1) := by decide +kernel
theorem dX5_setWindow_2 : decode cX5_setWindow 2 = .ok (.putfield 50, 3) := by decide +kernel
theorem dX5_setWindow_5 : decode cX5_setWindow 5 = .ok (.aload_n 0, 1) := by decide +kernel
theorem dX5_setWindow_6 : decode cX5_setWindow 6 = .ok (.iload_n 1, 1) := by decide +kernel
theorem dX5_setWindow_7 : decode cX5_setWindow 7 = .ok (.invokevirtual 80, 3) := by decide +kernel
theorem dX5_setWindow_10 : decode cX5_setWindow 10 = .ok (.ifCond .ne 9, 3) := by decide +kernel
theorem dX5_setWindow_13 : decode cX5_setWindow 13 = .ok (.aload_n 0, 1) := by decide +kernel
theorem dX5_setWindow_14 : decode cX5_setWindow 14 = .ok (.iconst 1, 1) := by decide +kernel
theorem dX5_setWindow_15 : decode cX5_setWindow 15 = .ok (.invokevirtual 69, 3) := by decide +kernel
theorem dX5_setWindow_18 : decode cX5_setWindow 18 = .ok (.ireturn, 1) := by decide +kernel
theorem dX5_setWindow_19 : decode cX5_setWindow 19 = .ok (.aload_n 0, 1) := by decide +kernel
theorem dX5_setWindow_20 : decode cX5_setWindow 20 = .ok (.getfield 9, 3) := by decide +kernel
theorem dX5_setWindow_23 : decode cX5_setWindow 23 = .ok (.iload_n 1, 1) := by decide +kernel
theorem dX5_setWindow_24 : decode cX5_setWindow 24 = .ok (.iaload, 1) := by decide +kernel
theorem dX5_setWindow_25 : decode cX5_setWindow 25 = .ok (.bipush (-2), 2) := by decide +kernel
theorem dX5_setWindow_27 : decode cX5_setWindow 27 = .ok (.if_icmp .ne 23, 3) := by decide +kernel
theorem dX5_setWindow_30 : decode cX5_setWindow 30 = .ok (.iload_n 2, 1) := by decide +kernel
theorem dX5_setWindow_31 : decode cX5_setWindow 31 = .ok (.iconst 0, 1) := by decide +kernel
theorem dX5_setWindow_32 : decode cX5_setWindow 32 = .ok (.bipush 20, 2) := by decide +kernel
theorem dX5_setWindow_34 : decode cX5_setWindow 34 = .ok (.invokestatic 54, 3) := by decide +kernel
theorem dX5_setWindow_37 : decode cX5_setWindow 37 = .ok (.ifCond .eq 13, 3) := by decide +kernel
theorem dX5_setWindow_40 : decode cX5_setWindow 40 = .ok (.iload_n 3, 1) := by decide +kernel
theorem dX5_setWindow_41 : decode cX5_setWindow 41 = .ok (.iconst 0, 1) := by decide +kernel
theorem dX5_setWindow_42 : decode cX5_setWindow 42 = .ok (.bipush 20, 2) := by decide +kernel
theorem dX5_setWindow_44 : decode cX5_setWindow 44 = .ok (.invokestatic 54, 3) := by decide +kernel
theorem dX5_setWindow_47 : decode cX5_setWindow 47 = .ok (.ifCond .ne 9, 3) := by decide +kernel
theorem dX5_setWindow_50 : decode cX5_setWindow 50 = .ok (.aload_n 0, 1) := by decide +kernel
theorem dX5_setWindow_51 : decode cX5_setWindow 51 = .ok (.iconst 2, 1) := by decide +kernel
theorem dX5_setWindow_52 : decode cX5_setWindow 52 = .ok (.invokevirtual 69, 3) := by decide +kernel
theorem dX5_setWindow_55 : decode cX5_setWindow 55 = .ok (.ireturn, 1) := by decide +kernel
theorem dX5_setWindow_56 : decode cX5_setWindow 56 = .ok (.aload_n 0, 1) := by decide +kernel
theorem dX5_setWindow_57 : decode cX5_setWindow 57 = .ok (.getfield 28, 3) := by decide +kernel
theorem dX5_setWindow_60 : decode cX5_setWindow 60 = .ok (.iload_n 1, 1) := by decide +kernel
theorem dX5_setWindow_61 : decode cX5_setWindow 61 = .ok (.iaload, 1) := by decide +kernel
theorem dX5_setWindow_62 : decode cX5_setWindow 62 = .ok (.istore 4, 2) := by decide +kernel
theorem dX5_setWindow_64 : decode cX5_setWindow 64 = .ok (.aload_n 0, 1) := by decide +kernel
theorem dX5_setWindow_65 : decode cX5_setWindow 65 = .ok (.getfield 28, 3) := by decide +kernel
theorem dX5_setWindow_68 : decode cX5_setWindow 68 = .ok (.iload_n 1, 1) := by decide +kernel
theorem dX5_setWindow_69 : decode cX5_setWindow 69 = .ok (.iload_n 2, 1) := by decide +kernel
theorem dX5_setWindow_70 : decode cX5_setWindow 70 = .ok (.iastore, 1) := by decide +kernel
theorem dX5_setWindow_71 : decode cX5_setWindow 71 = .ok (.aload_n 0, 1) := by decide +kernel
theorem dX5_setWindow_72 : decode cX5_setWindow 72 = .ok (.getfield 31, 3) := by decide +kernel
theorem dX5_setWindow_75 : decode cX5_setWindow 75 = .ok (.iload_n 1, 1) := by decide +kernel
theorem dX5_setWindow_76 : decode cX5_setWindow 76 = .ok (.iload_n 3, 1) := by decide +kernel
theorem dX5_setWindow_77 : decode cX5_setWindow 77 = .ok (.iastore, 1) := by decide +kernel
theorem dX5_setWindow_78 : decode cX5_setWindow 78 = .ok (.iload 4, 2) := by decide +kernel
theorem dX5_setWindow_80 : decode cX5_setWindow 80 = .ok (.ireturn, 1) := by decide +kernel
theorem dX5_setDelay_0 : decode cX5_setDelay 0 = .ok (.aload_n 0, 1) := by decide +kernel
theorem dX5_setDelay_1 : decode cX5_setDelay 1 = .ok (.iconst 0, 1) := by decide +kernel
theorem dX5_setDelay_2 : decode cX5_setDelay 2 = .ok (.putfield 50, 3) := by decide +kernel
theorem dX5_setDelay_5 : decode cX5_setDelay 5 = .ok (.aload_n 0, 1) := by decide +kernel
theorem dX5_setDelay_6 : decode cX5_setDelay 6 = .ok (.iload_n 1, 1) := by decide +kernel
theorem dX5_setDelay_7 : decode cX5_setDelay 7 = .ok (.invokevirtual 80, 3) := by decide +kernel
theorem dX5_setDelay_10 : decode cX5_setDelay 10 = .ok (.ifCond .ne 9, 3) := by decide +kernel
theorem dX5_setDelay_13 : decode cX5_setDelay 13 = .ok (.aload_n 0, 1) := by decide +kernel
theorem dX5_setDelay_14 : decode cX5_setDelay 14 = .ok (.iconst 1, 1) := by decide +kernel
theorem dX5_setDelay_15 : decode cX5_setDelay 15 = .ok (.invokevirtual 69, 3) := by decide +kernel
theorem dX5_setDelay_18 : decode cX5_setDelay 18 = .ok (.ireturn, 1) := by decide +kernel
theorem dX5_setDelay_19 : decode cX5_setDelay 19 = .ok (.aload_n 0, 1) := by decide +kernel
theorem dX5_setDelay_20 : decode cX5_setDelay 20 = .ok (.getfield 9, 3) := by decide +kernel
theorem dX5_setDelay_23 : decode cX5_setDelay 23 = .ok (.iload_n 1, 1) := by decide +kernel
theorem dX5_setDelay_24 : decode cX5_setDelay 24 = .ok (.iaload, 1) := by decide +kernel
theorem dX5_setDelay_25 : decode cX5_setDelay 25 = .ok (.iconst (-1), 1) := by decide +kernel
theorem dX5_setDelay_26 : decode cX5_setDelay 26 = .ok (.if_icmp .eq 13, 3) := by decide +kernel
theorem dX5_setDelay_29 : decode cX5_setDelay 29 = .ok (.iload_n 2, 1) := by decide +kernel
theorem dX5_setDelay_30 : decode cX5_setDelay 30 = .ok (.iconst 0, 1) := by decide +kernel
theorem dX5_setDelay_31 : decode cX5_setDelay 31 = .ok (.bipush 20, 2) := by decide +kernel
theorem dX5_setDelay_33 : decode cX5_setDelay 33 = .ok (.invokestatic 54, 3) := by decide +kernel
theorem dX5_setDelay_36 : decode cX5_setDelay 36 = .ok (.ifCond .ne 9, 3) := by decide +kernel
theorem dX5_setDelay_39 : decode cX5_setDelay 39 = .ok (.aload_n 0, 1) := by decide +kernel
theorem dX5_setDelay_40 : decode cX5_setDelay 40 = .ok (.iconst 2, 1) := by decide +kernel
theorem dX5_setDelay_41 : decode cX5_setDelay 41 = .ok (.invokevirtual 69, 3) := by decide +kernel
theorem dX5_setDelay_44 : decode cX5_setDelay 44 = .ok (.ireturn, 1) := by decide +kernel
theorem dX5_setDelay_45 : decode cX5_setDelay 45 = .ok (.aload_n 0, 1) := by decide +kernel
theorem dX5_setDelay_46 : decode cX5_setDelay 46 = .ok (.getfield 25, 3) := by decide +kernel
theorem dX5_setDelay_49 : decode cX5_setDelay 49 = .ok (.iload_n 1, 1) := by decide +kernel
theorem dX5_setDelay_50 : decode cX5_setDelay 50 = .ok (.iaload, 1) := by decide +kernel
theorem dX5_setDelay_51 : decode cX5_setDelay 51 = .ok (.istore_n 3, 1) := by decide +kernel
theorem dX5_setDelay_52 : decode cX5_setDelay 52 = .ok (.aload_n 0, 1) := by decide +kernel
theorem dX5_setDelay_53 : decode cX5_setDelay 53 = .ok (.getfield 25, 3) := by decide +kernel
theorem dX5_setDelay_56 : decode cX5_setDelay 56 = .ok (.iload_n 1, 1) := by decide +kernel
theorem dX5_setDelay_57 : decode cX5_setDelay 57 = .ok (.iload_n 2, 1) := by decide +kernel
theorem dX5_setDelay_58 : decode cX5_setDelay 58 = .ok (.iastore, 1) := by decide +kernel
theorem dX5_setDelay_59 : decode cX5_setDelay 59 = .ok (.iload_n 3, 1) := by decide +kernel
theorem dX5_setDelay_60 : decode cX5_setDelay 60 = .ok (.ireturn, 1) := by decide +kernel
theorem dX5_lines_0 : decode cX5_lines 0 = .ok (.aload_n 0, 1) := by decide +kernel
theorem dX5_lines_1 : decode cX5_lines 1 = .ok (.aload_n 0, 1) := by decide +kernel
theorem dX5_lines_2 : decode cX5_lines 2 = .ok (.getfield 58, 3) := by decide +kernel
theorem dX5_lines_5 : decode cX5_lines 5 = .ok (.invokevirtual 83, 3) := by decide +kernel
theorem dX5_lines_8 : decode cX5_lines 8 = .ok (.ireturn, 1) := by decide +kernel
theorem dX5_uses_0 : decode cX5_uses 0 = .ok (.aload_n 0, 1) := by decide +kernel
theorem dX5_uses_1 : decode cX5_uses 1 = .ok (.getfield 16, 3) := by decide +kernel
theorem dX5_uses_4 : decode cX5_uses 4 = .ok (.iload_n 1, 1) := by decide +kernel
theorem dX5_uses_5 : decode cX5_uses 5 = .ok (.iaload, 1) := by decide +kernel
theorem dX5_uses_6 : decode cX5_uses 6 = .ok (.iload_n 2, 1) := by decide +kernel
theorem dX5_uses_7 : decode cX5_uses 7 = .ok (.if_icmp .eq 23, 3) := by decide +kernel
theorem dX5_uses_10 : decode cX5_uses 10 = .ok (.aload_n 0, 1) := by decide +kernel
theorem dX5_uses_11 : decode cX5_uses 11 = .ok (.getfield 19, 3) := by decide +kernel
theorem dX5_uses_14 : decode cX5_uses 14 = .ok (.iload_n 1, 1) := by decide +kernel
theorem dX5_uses_15 : decode cX5_uses 15 = .ok (.iaload, 1) := by decide +kernel
theorem dX5_uses_16 : decode cX5_uses 16 = .ok (.iload_n 2, 1) := by decide +kernel
theorem dX5_uses_17 : decode cX5_uses 17 = .ok (.if_icmp .eq 13, 3) := by decide +kernel
theorem dX5_uses_20 : decode cX5_uses 20 = .ok (.aload_n 0, 1) := by decide +kernel
theorem dX5_uses_21 : decode cX5_uses 21 = .ok (.getfield 22, 3) := by decide +kernel
theorem dX5_uses_24 : decode cX5_uses 24 = .ok (.iload_n 1, 1) := by decide +kernel
theorem dX5_uses_25 : decode cX5_uses 25 = .ok (.iaload, 1) := by decide +kernel
theorem dX5_uses_26 : decode cX5_uses 26 = .ok (.iload_n 2, 1) := by decide +kernel
theorem dX5_uses_27 : decode cX5_uses 27 = .ok (.if_icmp .ne 7, 3) := by decide +kernel
theorem dX5_uses_30 : decode cX5_uses 30 = .ok (.iconst 1, 1) := by decide +kernel
theorem dX5_uses_31 : decode cX5_uses 31 = .ok (.goto 4, 3) := by decide +kernel
theorem dX5_uses_34 : decode cX5_uses 34 = .ok (.iconst 0, 1) := by decide +kernel
theorem dX5_uses_35 : decode cX5_uses 35 = .ok (.ireturn, 1) := by decide +kernel
theorem dX5_driver_0 : decode cX5_driver 0 = .ok (.iconst 0, 1) := by decide +kernel
theorem dX5_driver_1 : decode cX5_driver 1 = .ok (.istore_n 2, 1) := by decide +kernel
theorem dX5_driver_2 : decode cX5_driver 2 = .ok (.iload_n 2, 1) := by decide +kernel
theorem dX5_driver_3 : decode cX5_driver 3 = .ok (.aload_n 0, 1) := by decide +kernel
theorem dX5_driver_4 : decode cX5_driver 4 = .ok (.getfield 58, 3) := by decide +kernel
theorem dX5_driver_7 : decode cX5_driver 7 = .ok (.if_icmp .ge 21, 3) := by decide +kernel
theorem dX5_driver_10 : decode cX5_driver 10 = .ok (.aload_n 0, 1) := by decide +kernel
theorem dX5_driver_11 : decode cX5_driver 11 = .ok (.getfield 13, 3) := by decide +kernel
theorem dX5_driver_14 : decode cX5_driver 14 = .ok (.iload_n 2, 1) := by decide +kernel
theorem dX5_driver_15 : decode cX5_driver 15 = .ok (.iaload, 1) := by decide +kernel
theorem dX5_driver_16 : decode cX5_driver 16 = .ok (.iload_n 1, 1) := by decide +kernel
theorem dX5_driver_17 : decode cX5_driver 17 = .ok (.if_icmp .ne 5, 3) := by decide +kernel
theorem dX5_driver_20 : decode cX5_driver 20 = .ok (.iload_n 2, 1) := by decide +kernel
theorem dX5_driver_21 : decode cX5_driver 21 = .ok (.ireturn, 1) := by decide +kernel
theorem dX5_driver_22 : decode cX5_driver 22 = .ok (.iinc 2 1, 3) := by decide +kernel
theorem dX5_driver_25 : decode cX5_driver 25 = .ok (.goto (-23), 3) := by decide +kernel
theorem dX5_driver_28 : decode cX5_driver 28 = .ok (.iconst (-1), 1) := by decide +kernel
theorem dX5_driver_29 : decode cX5_driver 29 = .ok (.ireturn, 1) := by decide +kernel
theorem dX5_isGate_0 : decode cX5_isGate 0 = .ok (.iload_n 1, 1) := by decide +kernel
theorem dX5_isGate_1 : decode cX5_isGate 1 = .ok (.iconst (-1), 1) := by decide +kernel
theorem dX5_isGate_2 : decode cX5_isGate 2 = .ok (.if_icmp .eq 16, 3) := by decide +kernel
theorem dX5_isGate_5 : decode cX5_isGate 5 = .ok (.aload_n 0, 1) := by decide +kernel
theorem dX5_isGate_6 : decode cX5_isGate 6 = .ok (.getfield 9, 3) := by decide +kernel
theorem dX5_isGate_9 : decode cX5_isGate 9 = .ok (.iload_n 1, 1) := by decide +kernel
theorem dX5_isGate_10 : decode cX5_isGate 10 = .ok (.iaload, 1) := by decide +kernel
theorem dX5_isGate_11 : decode cX5_isGate 11 = .ok (.ifCond .lt 7, 3) := by decide +kernel
theorem dX5_isGate_14 : decode cX5_isGate 14 = .ok (.iconst 1, 1) := by decide +kernel
theorem dX5_isGate_15 : decode cX5_isGate 15 = .ok (.goto 4, 3) := by decide +kernel
theorem dX5_isGate_18 : decode cX5_isGate 18 = .ok (.iconst 0, 1) := by decide +kernel
theorem dX5_isGate_19 : decode cX5_isGate 19 = .ok (.ireturn, 1) := by decide +kernel
theorem dX5_isInRing_0 : decode cX5_isInRing 0 = .ok (.bipush 24, 2) := by decide +kernel
theorem dX5_isInRing_2 : decode cX5_isInRing 2 = .ok (.newarray .boolean, 2) := by decide +kernel
theorem dX5_isInRing_4 : decode cX5_isInRing 4 = .ok (.astore_n 2, 1) := by decide +kernel
theorem dX5_isInRing_5 : decode cX5_isInRing 5 = .ok (.aload_n 2, 1) := by decide +kernel
theorem dX5_isInRing_6 : decode cX5_isInRing 6 = .ok (.aload_n 0, 1) := by decide +kernel
theorem dX5_isInRing_7 : decode cX5_isInRing 7 = .ok (.getfield 13, 3) := by decide +kernel
theorem dX5_isInRing_10 : decode cX5_isInRing 10 = .ok (.iload_n 1, 1) := by decide +kernel
theorem dX5_isInRing_11 : decode cX5_isInRing 11 = .ok (.iaload, 1) := by decide +kernel
theorem dX5_isInRing_12 : decode cX5_isInRing 12 = .ok (.iconst 1, 1) := by decide +kernel
theorem dX5_isInRing_13 : decode cX5_isInRing 13 = .ok (.bastore, 1) := by decide +kernel
theorem dX5_isInRing_14 : decode cX5_isInRing 14 = .ok (.iconst 1, 1) := by decide +kernel
theorem dX5_isInRing_15 : decode cX5_isInRing 15 = .ok (.istore_n 3, 1) := by decide +kernel
theorem dX5_isInRing_16 : decode cX5_isInRing 16 = .ok (.iload_n 3, 1) := by decide +kernel
theorem dX5_isInRing_17 : decode cX5_isInRing 17 = .ok (.ifCond .eq 72, 3) := by decide +kernel
theorem dX5_isInRing_20 : decode cX5_isInRing 20 = .ok (.iconst 0, 1) := by decide +kernel
theorem dX5_isInRing_21 : decode cX5_isInRing 21 = .ok (.istore_n 3, 1) := by decide +kernel
theorem dX5_isInRing_22 : decode cX5_isInRing 22 = .ok (.iconst 0, 1) := by decide +kernel
theorem dX5_isInRing_23 : decode cX5_isInRing 23 = .ok (.istore 4, 2) := by decide +kernel
theorem dX5_isInRing_25 : decode cX5_isInRing 25 = .ok (.iload 4, 2) := by decide +kernel
theorem dX5_isInRing_27 : decode cX5_isInRing 27 = .ok (.aload_n 0, 1) := by decide +kernel
theorem dX5_isInRing_28 : decode cX5_isInRing 28 = .ok (.getfield 58, 3) := by decide +kernel
theorem dX5_isInRing_31 : decode cX5_isInRing 31 = .ok (.if_icmp .ge 55, 3) := by decide +kernel
theorem dX5_isInRing_34 : decode cX5_isInRing 34 = .ok (.aload_n 0, 1) := by decide +kernel
theorem dX5_isInRing_35 : decode cX5_isInRing 35 = .ok (.iload 4, 2) := by decide +kernel
theorem dX5_isInRing_37 : decode cX5_isInRing 37 = .ok (.invokevirtual 86, 3) := by decide +kernel
theorem dX5_isInRing_40 : decode cX5_isInRing 40 = .ok (.ifCond .eq 40, 3) := by decide +kernel
theorem dX5_isInRing_43 : decode cX5_isInRing 43 = .ok (.aload_n 2, 1) := by decide +kernel
theorem dX5_isInRing_44 : decode cX5_isInRing 44 = .ok (.aload_n 0, 1) := by decide +kernel
theorem dX5_isInRing_45 : decode cX5_isInRing 45 = .ok (.getfield 13, 3) := by decide +kernel
theorem dX5_isInRing_48 : decode cX5_isInRing 48 = .ok (.iload 4, 2) := by decide +kernel
theorem dX5_isInRing_50 : decode cX5_isInRing 50 = .ok (.iaload, 1) := by decide +kernel
theorem dX5_isInRing_51 : decode cX5_isInRing 51 = .ok (.baload, 1) := by decide +kernel
theorem dX5_isInRing_52 : decode cX5_isInRing 52 = .ok (.ifCond .ne 28, 3) := by decide +kernel
theorem dX5_isInRing_55 : decode cX5_isInRing 55 = .ok (.aload_n 0, 1) := by decide +kernel
theorem dX5_isInRing_56 : decode cX5_isInRing 56 = .ok (.iload 4, 2) := by decide +kernel
theorem dX5_isInRing_58 : decode cX5_isInRing 58 = .ok (.aload_n 2, 1) := by decide +kernel
theorem dX5_isInRing_59 : decode cX5_isInRing 59 = .ok (.invokevirtual 89, 3) := by decide +kernel
theorem dX5_isInRing_62 : decode cX5_isInRing 62 = .ok (.ifCond .ne 6, 3) := by decide +kernel
theorem dX5_isInRing_65 : decode cX5_isInRing 65 = .ok (.goto 15, 3) := by decide +kernel
theorem dX5_isInRing_68 : decode cX5_isInRing 68 = .ok (.aload_n 2, 1) := by decide +kernel
theorem dX5_isInRing_69 : decode cX5_isInRing 69 = .ok (.aload_n 0, 1) := by decide +kernel
theorem dX5_isInRing_70 : decode cX5_isInRing 70 = .ok (.getfield 13, 3) := by decide +kernel
theorem dX5_isInRing_73 : decode cX5_isInRing 73 = .ok (.iload 4, 2) := by decide +kernel
theorem dX5_isInRing_75 : decode cX5_isInRing 75 = .ok (.iaload, 1) := by decide +kernel
theorem dX5_isInRing_76 : decode cX5_isInRing 76 = .ok (.iconst 1, 1) := by decide +kernel
theorem dX5_isInRing_77 : decode cX5_isInRing 77 = .ok (.bastore, 1) := by decide +kernel
theorem dX5_isInRing_78 : decode cX5_isInRing 78 = .ok (.iconst 1, 1) := by decide +kernel
theorem dX5_isInRing_79 : decode cX5_isInRing 79 = .ok (.istore_n 3, 1) := by decide +kernel
theorem dX5_isInRing_80 : decode cX5_isInRing 80 = .ok (.iinc 4 1, 3) := by decide +kernel
theorem dX5_isInRing_83 : decode cX5_isInRing 83 = .ok (.goto (-58), 3) := by decide +kernel
theorem dX5_isInRing_86 : decode cX5_isInRing 86 = .ok (.goto (-70), 3) := by decide +kernel
theorem dX5_isInRing_89 : decode cX5_isInRing 89 = .ok (.aload_n 0, 1) := by decide +kernel
theorem dX5_isInRing_90 : decode cX5_isInRing 90 = .ok (.iload_n 1, 1) := by decide +kernel
theorem dX5_isInRing_91 : decode cX5_isInRing 91 = .ok (.aload_n 2, 1) := by decide +kernel
theorem dX5_isInRing_92 : decode cX5_isInRing 92 = .ok (.invokevirtual 89, 3) := by decide +kernel
theorem dX5_isInRing_95 : decode cX5_isInRing 95 = .ok (.ireturn, 1) := by decide +kernel
theorem dX5_usesAny_0 : decode cX5_usesAny 0 = .ok (.iconst 0, 1) := by decide +kernel
theorem dX5_usesAny_1 : decode cX5_usesAny 1 = .ok (.istore_n 3, 1) := by decide +kernel
theorem dX5_usesAny_2 : decode cX5_usesAny 2 = .ok (.iload_n 3, 1) := by decide +kernel
theorem dX5_usesAny_3 : decode cX5_usesAny 3 = .ok (.bipush 24, 2) := by decide +kernel
theorem dX5_usesAny_5 : decode cX5_usesAny 5 = .ok (.if_icmp .ge 26, 3) := by decide +kernel
theorem dX5_usesAny_8 : decode cX5_usesAny 8 = .ok (.aload_n 2, 1) := by decide +kernel
theorem dX5_usesAny_9 : decode cX5_usesAny 9 = .ok (.iload_n 3, 1) := by decide +kernel
theorem dX5_usesAny_10 : decode cX5_usesAny 10 = .ok (.baload, 1) := by decide +kernel
theorem dX5_usesAny_11 : decode cX5_usesAny 11 = .ok (.ifCond .eq 14, 3) := by decide +kernel
theorem dX5_usesAny_14 : decode cX5_usesAny 14 = .ok (.aload_n 0, 1) := by decide +kernel
theorem dX5_usesAny_15 : decode cX5_usesAny 15 = .ok (.iload_n 1, 1) := by decide +kernel
theorem dX5_usesAny_16 : decode cX5_usesAny 16 = .ok (.iload_n 3, 1) := by decide +kernel
theorem dX5_usesAny_17 : decode cX5_usesAny 17 = .ok (.invokevirtual 93, 3) := by decide +kernel
theorem dX5_usesAny_20 : decode cX5_usesAny 20 = .ok (.ifCond .eq 5, 3) := by decide +kernel
theorem dX5_usesAny_23 : decode cX5_usesAny 23 = .ok (.iconst 1, 1) := by decide +kernel
theorem dX5_usesAny_24 : decode cX5_usesAny 24 = .ok (.ireturn, 1) := by decide +kernel
theorem dX5_usesAny_25 : decode cX5_usesAny 25 = .ok (.iinc 3 1, 3) := by decide +kernel
theorem dX5_usesAny_28 : decode cX5_usesAny 28 = .ok (.goto (-26), 3) := by decide +kernel
theorem dX5_usesAny_31 : decode cX5_usesAny 31 = .ok (.iconst 0, 1) := by decide +kernel
theorem dX5_usesAny_32 : decode cX5_usesAny 32 = .ok (.ireturn, 1) := by decide +kernel
theorem dX5_usersNow_0 : decode cX5_usersNow 0 = .ok (.iconst 0, 1) := by decide +kernel
theorem dX5_usersNow_1 : decode cX5_usersNow 1 = .ok (.istore_n 2, 1) := by decide +kernel
theorem dX5_usersNow_2 : decode cX5_usersNow 2 = .ok (.iconst 0, 1) := by decide +kernel
theorem dX5_usersNow_3 : decode cX5_usersNow 3 = .ok (.istore_n 3, 1) := by decide +kernel
theorem dX5_usersNow_4 : decode cX5_usersNow 4 = .ok (.iload_n 3, 1) := by decide +kernel
theorem dX5_usersNow_5 : decode cX5_usersNow 5 = .ok (.aload_n 0, 1) := by decide +kernel
theorem dX5_usersNow_6 : decode cX5_usersNow 6 = .ok (.getfield 58, 3) := by decide +kernel
theorem dX5_usersNow_9 : decode cX5_usersNow 9 = .ok (.if_icmp .ge 26, 3) := by decide +kernel
theorem dX5_usersNow_12 : decode cX5_usersNow 12 = .ok (.iload_n 2, 1) := by decide +kernel
theorem dX5_usersNow_13 : decode cX5_usersNow 13 = .ok (.aload_n 0, 1) := by decide +kernel
theorem dX5_usersNow_14 : decode cX5_usersNow 14 = .ok (.iload_n 3, 1) := by decide +kernel
theorem dX5_usersNow_15 : decode cX5_usersNow 15 = .ok (.iload_n 1, 1) := by decide +kernel
theorem dX5_usersNow_16 : decode cX5_usersNow 16 = .ok (.invokevirtual 93, 3) := by decide +kernel
theorem dX5_usersNow_19 : decode cX5_usersNow 19 = .ok (.ifCond .eq 7, 3) := by decide +kernel
theorem dX5_usersNow_22 : decode cX5_usersNow 22 = .ok (.iconst 1, 1) := by decide +kernel
theorem dX5_usersNow_23 : decode cX5_usersNow 23 = .ok (.goto 4, 3) := by decide +kernel
theorem dX5_usersNow_26 : decode cX5_usersNow 26 = .ok (.iconst 0, 1) := by decide +kernel
theorem dX5_usersNow_27 : decode cX5_usersNow 27 = .ok (.iadd, 1) := by decide +kernel
theorem dX5_usersNow_28 : decode cX5_usersNow 28 = .ok (.istore_n 2, 1) := by decide +kernel
theorem dX5_usersNow_29 : decode cX5_usersNow 29 = .ok (.iinc 3 1, 3) := by decide +kernel
theorem dX5_usersNow_32 : decode cX5_usersNow 32 = .ok (.goto (-28), 3) := by decide +kernel
theorem dX5_usersNow_35 : decode cX5_usersNow 35 = .ok (.iload_n 2, 1) := by decide +kernel
theorem dX5_usersNow_36 : decode cX5_usersNow 36 = .ok (.ireturn, 1) := by decide +kernel
theorem dX5_note_0 : decode cX5_note 0 = .ok (.aload_n 0, 1) := by decide +kernel
theorem dX5_note_1 : decode cX5_note 1 = .ok (.getfield 37, 3) := by decide +kernel
theorem dX5_note_4 : decode cX5_note 4 = .ok (.iconst 2, 1) := by decide +kernel
theorem dX5_note_5 : decode cX5_note 5 = .ok (.aload_n 0, 1) := by decide +kernel
theorem dX5_note_6 : decode cX5_note 6 = .ok (.getfield 97, 3) := by decide +kernel
theorem dX5_note_9 : decode cX5_note 9 = .ok (.imul, 1) := by decide +kernel
theorem dX5_note_10 : decode cX5_note 10 = .ok (.iload_n 1, 1) := by decide +kernel
theorem dX5_note_11 : decode cX5_note 11 = .ok (.iastore, 1) := by decide +kernel
theorem dX5_note_12 : decode cX5_note 12 = .ok (.aload_n 0, 1) := by decide +kernel
theorem dX5_note_13 : decode cX5_note 13 = .ok (.getfield 37, 3) := by decide +kernel
theorem dX5_note_16 : decode cX5_note 16 = .ok (.iconst 2, 1) := by decide +kernel
theorem dX5_note_17 : decode cX5_note 17 = .ok (.aload_n 0, 1) := by decide +kernel
theorem dX5_note_18 : decode cX5_note 18 = .ok (.getfield 97, 3) := by decide +kernel
theorem dX5_note_21 : decode cX5_note 21 = .ok (.imul, 1) := by decide +kernel
theorem dX5_note_22 : decode cX5_note 22 = .ok (.iconst 1, 1) := by decide +kernel
theorem dX5_note_23 : decode cX5_note 23 = .ok (.iadd, 1) := by decide +kernel
theorem dX5_note_24 : decode cX5_note 24 = .ok (.iload_n 2, 1) := by decide +kernel
theorem dX5_note_25 : decode cX5_note 25 = .ok (.iastore, 1) := by decide +kernel
theorem dX5_note_26 : decode cX5_note 26 = .ok (.aload_n 0, 1) := by decide +kernel
theorem dX5_note_27 : decode cX5_note 27 = .ok (.dup, 1) := by decide +kernel
theorem dX5_note_28 : decode cX5_note 28 = .ok (.getfield 97, 3) := by decide +kernel
theorem dX5_note_31 : decode cX5_note 31 = .ok (.iconst 1, 1) := by decide +kernel
theorem dX5_note_32 : decode cX5_note 32 = .ok (.iadd, 1) := by decide +kernel
theorem dX5_note_33 : decode cX5_note 33 = .ok (.putfield 97, 3) := by decide +kernel
theorem dX5_note_36 : decode cX5_note 36 = .ok (.return_, 1) := by decide +kernel
theorem dX5_noteFlaws_0 : decode cX5_noteFlaws 0 = .ok (.aload_n 0, 1) := by decide +kernel
theorem dX5_noteFlaws_1 : decode cX5_noteFlaws 1 = .ok (.iconst 0, 1) := by decide +kernel
theorem dX5_noteFlaws_2 : decode cX5_noteFlaws 2 = .ok (.putfield 97, 3) := by decide +kernel
theorem dX5_noteFlaws_5 : decode cX5_noteFlaws 5 = .ok (.iconst 0, 1) := by decide +kernel
theorem dX5_noteFlaws_6 : decode cX5_noteFlaws 6 = .ok (.istore_n 1, 1) := by decide +kernel
theorem dX5_noteFlaws_7 : decode cX5_noteFlaws 7 = .ok (.iload_n 1, 1) := by decide +kernel
theorem dX5_noteFlaws_8 : decode cX5_noteFlaws 8 = .ok (.bipush 24, 2) := by decide +kernel
theorem dX5_noteFlaws_10 : decode cX5_noteFlaws 10 = .ok (.if_icmp .ge 74, 3) := by decide +kernel
theorem dX5_noteFlaws_13 : decode cX5_noteFlaws 13 = .ok (.iconst 0, 1) := by decide +kernel
theorem dX5_noteFlaws_14 : decode cX5_noteFlaws 14 = .ok (.istore_n 2, 1) := by decide +kernel
theorem dX5_noteFlaws_15 : decode cX5_noteFlaws 15 = .ok (.iconst 0, 1) := by decide +kernel
theorem dX5_noteFlaws_16 : decode cX5_noteFlaws 16 = .ok (.istore_n 3, 1) := by decide +kernel
theorem dX5_noteFlaws_17 : decode cX5_noteFlaws 17 = .ok (.iload_n 3, 1) := by decide +kernel
theorem dX5_noteFlaws_18 : decode cX5_noteFlaws 18 = .ok (.aload_n 0, 1) := by decide +kernel
theorem dX5_noteFlaws_19 : decode cX5_noteFlaws 19 = .ok (.getfield 58, 3) := by decide +kernel
theorem dX5_noteFlaws_22 : decode cX5_noteFlaws 22 = .ok (.if_icmp .ge 27, 3) := by decide +kernel
theorem dX5_noteFlaws_25 : decode cX5_noteFlaws 25 = .ok (.iload_n 2, 1) := by decide +kernel
theorem dX5_noteFlaws_26 : decode cX5_noteFlaws 26 = .ok (.aload_n 0, 1) := by decide +kernel
theorem dX5_noteFlaws_27 : decode cX5_noteFlaws 27 = .ok (.getfield 13, 3) := by decide +kernel
theorem dX5_noteFlaws_30 : decode cX5_noteFlaws 30 = .ok (.iload_n 3, 1) := by decide +kernel
theorem dX5_noteFlaws_31 : decode cX5_noteFlaws 31 = .ok (.iaload, 1) := by decide +kernel
theorem dX5_noteFlaws_32 : decode cX5_noteFlaws 32 = .ok (.iload_n 1, 1) := by decide +kernel
theorem dX5_noteFlaws_33 : decode cX5_noteFlaws 33 = .ok (.if_icmp .ne 7, 3) := by decide +kernel
theorem dX5_noteFlaws_36 : decode cX5_noteFlaws 36 = .ok (.iconst 1, 1) := by decide +kernel
theorem dX5_noteFlaws_37 : decode cX5_noteFlaws 37 = .ok (.goto 4, 3) := by decide +kernel
theorem dX5_noteFlaws_40 : decode cX5_noteFlaws 40 = .ok (.iconst 0, 1) := by decide +kernel
theorem dX5_noteFlaws_41 : decode cX5_noteFlaws 41 = .ok (.iadd, 1) := by decide +kernel
theorem dX5_noteFlaws_42 : decode cX5_noteFlaws 42 = .ok (.istore_n 2, 1) := by decide +kernel
theorem dX5_noteFlaws_43 : decode cX5_noteFlaws 43 = .ok (.iinc 3 1, 3) := by decide +kernel
theorem dX5_noteFlaws_46 : decode cX5_noteFlaws 46 = .ok (.goto (-29), 3) := by decide +kernel
theorem dX5_noteFlaws_49 : decode cX5_noteFlaws 49 = .ok (.iload_n 2, 1) := by decide +kernel
theorem dX5_noteFlaws_50 : decode cX5_noteFlaws 50 = .ok (.iconst 1, 1) := by decide +kernel
theorem dX5_noteFlaws_51 : decode cX5_noteFlaws 51 = .ok (.if_icmp .le 9, 3) := by decide +kernel
theorem dX5_noteFlaws_54 : decode cX5_noteFlaws 54 = .ok (.aload_n 0, 1) := by decide +kernel
theorem dX5_noteFlaws_55 : decode cX5_noteFlaws 55 = .ok (.iconst 1, 1) := by decide +kernel
theorem dX5_noteFlaws_56 : decode cX5_noteFlaws 56 = .ok (.iload_n 1, 1) := by decide +kernel
theorem dX5_noteFlaws_57 : decode cX5_noteFlaws 57 = .ok (.invokevirtual 100, 3) := by decide +kernel
theorem dX5_noteFlaws_60 : decode cX5_noteFlaws 60 = .ok (.iload_n 2, 1) := by decide +kernel
theorem dX5_noteFlaws_61 : decode cX5_noteFlaws 61 = .ok (.ifCond .ne 17, 3) := by decide +kernel
theorem dX5_noteFlaws_64 : decode cX5_noteFlaws 64 = .ok (.aload_n 0, 1) := by decide +kernel
theorem dX5_noteFlaws_65 : decode cX5_noteFlaws 65 = .ok (.iload_n 1, 1) := by decide +kernel
theorem dX5_noteFlaws_66 : decode cX5_noteFlaws 66 = .ok (.invokevirtual 104, 3) := by decide +kernel
theorem dX5_noteFlaws_69 : decode cX5_noteFlaws 69 = .ok (.ifCond .le 9, 3) := by decide +kernel
theorem dX5_noteFlaws_72 : decode cX5_noteFlaws 72 = .ok (.aload_n 0, 1) := by decide +kernel
theorem dX5_noteFlaws_73 : decode cX5_noteFlaws 73 = .ok (.iconst 2, 1) := by decide +kernel
theorem dX5_noteFlaws_74 : decode cX5_noteFlaws 74 = .ok (.iload_n 1, 1) := by decide +kernel
theorem dX5_noteFlaws_75 : decode cX5_noteFlaws 75 = .ok (.invokevirtual 100, 3) := by decide +kernel
theorem dX5_noteFlaws_78 : decode cX5_noteFlaws 78 = .ok (.iinc 1 1, 3) := by decide +kernel
theorem dX5_noteFlaws_81 : decode cX5_noteFlaws 81 = .ok (.goto (-74), 3) := by decide +kernel
theorem dX5_noteFlaws_84 : decode cX5_noteFlaws 84 = .ok (.iconst 0, 1) := by decide +kernel
theorem dX5_noteFlaws_85 : decode cX5_noteFlaws 85 = .ok (.istore_n 1, 1) := by decide +kernel
theorem dX5_noteFlaws_86 : decode cX5_noteFlaws 86 = .ok (.iload_n 1, 1) := by decide +kernel
theorem dX5_noteFlaws_87 : decode cX5_noteFlaws 87 = .ok (.aload_n 0, 1) := by decide +kernel
theorem dX5_noteFlaws_88 : decode cX5_noteFlaws 88 = .ok (.getfield 58, 3) := by decide +kernel
theorem dX5_noteFlaws_91 : decode cX5_noteFlaws 91 = .ok (.if_icmp .ge 31, 3) := by decide +kernel
theorem dX5_noteFlaws_94 : decode cX5_noteFlaws 94 = .ok (.aload_n 0, 1) := by decide +kernel
theorem dX5_noteFlaws_95 : decode cX5_noteFlaws 95 = .ok (.iload_n 1, 1) := by decide +kernel
theorem dX5_noteFlaws_96 : decode cX5_noteFlaws 96 = .ok (.invokevirtual 86, 3) := by decide +kernel
theorem dX5_noteFlaws_99 : decode cX5_noteFlaws 99 = .ok (.ifCond .eq 17, 3) := by decide +kernel
theorem dX5_noteFlaws_102 : decode cX5_noteFlaws 102 = .ok (.aload_n 0, 1) := by decide +kernel
theorem dX5_noteFlaws_103 : decode cX5_noteFlaws 103 = .ok (.iload_n 1, 1) := by decide +kernel
theorem dX5_noteFlaws_104 : decode cX5_noteFlaws 104 = .ok (.invokevirtual 107, 3) := by decide +kernel
theorem dX5_noteFlaws_107 : decode cX5_noteFlaws 107 = .ok (.ifCond .eq 9, 3) := by decide +kernel
theorem dX5_noteFlaws_110 : decode cX5_noteFlaws 110 = .ok (.aload_n 0, 1) := by decide +kernel
theorem dX5_noteFlaws_111 : decode cX5_noteFlaws 111 = .ok (.iconst 3, 1) := by decide +kernel
theorem dX5_noteFlaws_112 : decode cX5_noteFlaws 112 = .ok (.iload_n 1, 1) := by decide +kernel
theorem dX5_noteFlaws_113 : decode cX5_noteFlaws 113 = .ok (.invokevirtual 100, 3) := by decide +kernel
theorem dX5_noteFlaws_116 : decode cX5_noteFlaws 116 = .ok (.iinc 1 1, 3) := by decide +kernel
theorem dX5_noteFlaws_119 : decode cX5_noteFlaws 119 = .ok (.goto (-33), 3) := by decide +kernel
theorem dX5_noteFlaws_122 : decode cX5_noteFlaws 122 = .ok (.return_, 1) := by decide +kernel
theorem dX5_flaws_0 : decode cX5_flaws 0 = .ok (.aload_n 0, 1) := by decide +kernel
theorem dX5_flaws_1 : decode cX5_flaws 1 = .ok (.iconst 0, 1) := by decide +kernel
theorem dX5_flaws_2 : decode cX5_flaws 2 = .ok (.putfield 50, 3) := by decide +kernel
theorem dX5_flaws_5 : decode cX5_flaws 5 = .ok (.aload_n 0, 1) := by decide +kernel
theorem dX5_flaws_6 : decode cX5_flaws 6 = .ok (.invokevirtual 110, 3) := by decide +kernel
theorem dX5_flaws_9 : decode cX5_flaws 9 = .ok (.aload_n 0, 1) := by decide +kernel
theorem dX5_flaws_10 : decode cX5_flaws 10 = .ok (.getfield 97, 3) := by decide +kernel
theorem dX5_flaws_13 : decode cX5_flaws 13 = .ok (.ireturn, 1) := by decide +kernel
theorem dX5_ofFlaw_0 : decode cX5_ofFlaw 0 = .ok (.aload_n 0, 1) := by decide +kernel
theorem dX5_ofFlaw_1 : decode cX5_ofFlaw 1 = .ok (.iconst 0, 1) := by decide +kernel
theorem dX5_ofFlaw_2 : decode cX5_ofFlaw 2 = .ok (.putfield 50, 3) := by decide +kernel
theorem dX5_ofFlaw_5 : decode cX5_ofFlaw 5 = .ok (.aload_n 0, 1) := by decide +kernel
theorem dX5_ofFlaw_6 : decode cX5_ofFlaw 6 = .ok (.invokevirtual 110, 3) := by decide +kernel
theorem dX5_ofFlaw_9 : decode cX5_ofFlaw 9 = .ok (.iload_n 1, 1) := by decide +kernel
theorem dX5_ofFlaw_10 : decode cX5_ofFlaw 10 = .ok (.iconst 0, 1) := by decide +kernel
theorem dX5_ofFlaw_11 : decode cX5_ofFlaw 11 = .ok (.aload_n 0, 1) := by decide +kernel
theorem dX5_ofFlaw_12 : decode cX5_ofFlaw 12 = .ok (.getfield 97, 3) := by decide +kernel
theorem dX5_ofFlaw_15 : decode cX5_ofFlaw 15 = .ok (.iconst 1, 1) := by decide +kernel
theorem dX5_ofFlaw_16 : decode cX5_ofFlaw 16 = .ok (.isub, 1) := by decide +kernel
theorem dX5_ofFlaw_17 : decode cX5_ofFlaw 17 = .ok (.invokestatic 54, 3) := by decide +kernel
theorem dX5_ofFlaw_20 : decode cX5_ofFlaw 20 = .ok (.ifCond .ne 9, 3) := by decide +kernel
theorem dX5_ofFlaw_23 : decode cX5_ofFlaw 23 = .ok (.aload_n 0, 1) := by decide +kernel
theorem dX5_ofFlaw_24 : decode cX5_ofFlaw 24 = .ok (.iconst 1, 1) := by decide +kernel
theorem dX5_ofFlaw_25 : decode cX5_ofFlaw 25 = .ok (.invokevirtual 69, 3) := by decide +kernel
theorem dX5_ofFlaw_28 : decode cX5_ofFlaw 28 = .ok (.ireturn, 1) := by decide +kernel
theorem dX5_ofFlaw_29 : decode cX5_ofFlaw 29 = .ok (.iload_n 2, 1) := by decide +kernel
theorem dX5_ofFlaw_30 : decode cX5_ofFlaw 30 = .ok (.iconst 0, 1) := by decide +kernel
theorem dX5_ofFlaw_31 : decode cX5_ofFlaw 31 = .ok (.iconst 1, 1) := by decide +kernel
theorem dX5_ofFlaw_32 : decode cX5_ofFlaw 32 = .ok (.invokestatic 54, 3) := by decide +kernel
theorem dX5_ofFlaw_35 : decode cX5_ofFlaw 35 = .ok (.ifCond .eq 16, 3) := by decide +kernel
theorem dX5_ofFlaw_38 : decode cX5_ofFlaw 38 = .ok (.aload_n 0, 1) := by decide +kernel
theorem dX5_ofFlaw_39 : decode cX5_ofFlaw 39 = .ok (.getfield 37, 3) := by decide +kernel
theorem dX5_ofFlaw_42 : decode cX5_ofFlaw 42 = .ok (.iconst 2, 1) := by decide +kernel
theorem dX5_ofFlaw_43 : decode cX5_ofFlaw 43 = .ok (.iload_n 1, 1) := by decide +kernel
theorem dX5_ofFlaw_44 : decode cX5_ofFlaw 44 = .ok (.imul, 1) := by decide +kernel
theorem dX5_ofFlaw_45 : decode cX5_ofFlaw 45 = .ok (.iload_n 2, 1) := by decide +kernel
theorem dX5_ofFlaw_46 : decode cX5_ofFlaw 46 = .ok (.iadd, 1) := by decide +kernel
theorem dX5_ofFlaw_47 : decode cX5_ofFlaw 47 = .ok (.iaload, 1) := by decide +kernel
theorem dX5_ofFlaw_48 : decode cX5_ofFlaw 48 = .ok (.goto 8, 3) := by decide +kernel
theorem dX5_ofFlaw_51 : decode cX5_ofFlaw 51 = .ok (.aload_n 0, 1) := by decide +kernel
theorem dX5_ofFlaw_52 : decode cX5_ofFlaw 52 = .ok (.iconst 2, 1) := by decide +kernel
theorem dX5_ofFlaw_53 : decode cX5_ofFlaw 53 = .ok (.invokevirtual 69, 3) := by decide +kernel
theorem dX5_ofFlaw_56 : decode cX5_ofFlaw 56 = .ok (.ireturn, 1) := by decide +kernel
theorem dX5_tellArrivals_0 : decode cX5_tellArrivals 0 = .ok (.iconst 0, 1) := by decide +kernel
theorem dX5_tellArrivals_1 : decode cX5_tellArrivals 1 = .ok (.istore_n 1, 1) := by decide +kernel
theorem dX5_tellArrivals_2 : decode cX5_tellArrivals 2 = .ok (.iload_n 1, 1) := by decide +kernel
theorem dX5_tellArrivals_3 : decode cX5_tellArrivals 3 = .ok (.bipush 24, 2) := by decide +kernel
theorem dX5_tellArrivals_5 : decode cX5_tellArrivals 5 = .ok (.if_icmp .ge 16, 3) := by decide +kernel
theorem dX5_tellArrivals_8 : decode cX5_tellArrivals 8 = .ok (.aload_n 0, 1) := by decide +kernel
theorem dX5_tellArrivals_9 : decode cX5_tellArrivals 9 = .ok (.getfield 43, 3) := by decide +kernel
theorem dX5_tellArrivals_12 : decode cX5_tellArrivals 12 = .ok (.iload_n 1, 1) := by decide +kernel
theorem dX5_tellArrivals_13 : decode cX5_tellArrivals 13 = .ok (.iconst 0, 1) := by decide +kernel
theorem dX5_tellArrivals_14 : decode cX5_tellArrivals 14 = .ok (.bastore, 1) := by decide +kernel
theorem dX5_tellArrivals_15 : decode cX5_tellArrivals 15 = .ok (.iinc 1 1, 3) := by decide +kernel
theorem dX5_tellArrivals_18 : decode cX5_tellArrivals 18 = .ok (.goto (-16), 3) := by decide +kernel
theorem dX5_tellArrivals_21 : decode cX5_tellArrivals 21 = .ok (.iconst 0, 1) := by decide +kernel
theorem dX5_tellArrivals_22 : decode cX5_tellArrivals 22 = .ok (.istore_n 1, 1) := by decide +kernel
theorem dX5_tellArrivals_23 : decode cX5_tellArrivals 23 = .ok (.iload_n 1, 1) := by decide +kernel
theorem dX5_tellArrivals_24 : decode cX5_tellArrivals 24 = .ok (.bipush 24, 2) := by decide +kernel
theorem dX5_tellArrivals_26 : decode cX5_tellArrivals 26 = .ok (.if_icmp .ge 15, 3) := by decide +kernel
theorem dX5_tellArrivals_29 : decode cX5_tellArrivals 29 = .ok (.aload_n 0, 1) := by decide +kernel
theorem dX5_tellArrivals_30 : decode cX5_tellArrivals 30 = .ok (.iload_n 1, 1) := by decide +kernel
theorem dX5_tellArrivals_31 : decode cX5_tellArrivals 31 = .ok (.invokevirtual 113, 3) := by decide +kernel
theorem dX5_tellArrivals_34 : decode cX5_tellArrivals 34 = .ok (.pop, 1) := by decide +kernel
theorem dX5_tellArrivals_35 : decode cX5_tellArrivals 35 = .ok (.iinc 1 1, 3) := by decide +kernel
theorem dX5_tellArrivals_38 : decode cX5_tellArrivals 38 = .ok (.goto (-15), 3) := by decide +kernel
theorem dX5_tellArrivals_41 : decode cX5_tellArrivals 41 = .ok (.return_, 1) := by decide +kernel
theorem dX5_tellArrival_0 : decode cX5_tellArrival 0 = .ok (.aload_n 0, 1) := by decide +kernel
theorem dX5_tellArrival_1 : decode cX5_tellArrival 1 = .ok (.getfield 43, 3) := by decide +kernel
theorem dX5_tellArrival_4 : decode cX5_tellArrival 4 = .ok (.iload_n 1, 1) := by decide +kernel
theorem dX5_tellArrival_5 : decode cX5_tellArrival 5 = .ok (.baload, 1) := by decide +kernel
theorem dX5_tellArrival_6 : decode cX5_tellArrival 6 = .ok (.ifCond .eq 10, 3) := by decide +kernel
theorem dX5_tellArrival_9 : decode cX5_tellArrival 9 = .ok (.aload_n 0, 1) := by decide +kernel
theorem dX5_tellArrival_10 : decode cX5_tellArrival 10 = .ok (.getfield 40, 3) := by decide +kernel
theorem dX5_tellArrival_13 : decode cX5_tellArrival 13 = .ok (.iload_n 1, 1) := by decide +kernel
theorem dX5_tellArrival_14 : decode cX5_tellArrival 14 = .ok (.iaload, 1) := by decide +kernel
theorem dX5_tellArrival_15 : decode cX5_tellArrival 15 = .ok (.ireturn, 1) := by decide +kernel
theorem dX5_tellArrival_16 : decode cX5_tellArrival 16 = .ok (.aload_n 0, 1) := by decide +kernel
theorem dX5_tellArrival_17 : decode cX5_tellArrival 17 = .ok (.iload_n 1, 1) := by decide +kernel
theorem dX5_tellArrival_18 : decode cX5_tellArrival 18 = .ok (.invokevirtual 116, 3) := by decide +kernel
theorem dX5_tellArrival_21 : decode cX5_tellArrival 21 = .ok (.istore_n 2, 1) := by decide +kernel
theorem dX5_tellArrival_22 : decode cX5_tellArrival 22 = .ok (.iload_n 2, 1) := by decide +kernel
theorem dX5_tellArrival_23 : decode cX5_tellArrival 23 = .ok (.iconst (-1), 1) := by decide +kernel
theorem dX5_tellArrival_24 : decode cX5_tellArrival 24 = .ok (.if_icmp .ne 7, 3) := by decide +kernel
theorem dX5_tellArrival_27 : decode cX5_tellArrival 27 = .ok (.iconst 0, 1) := by decide +kernel
theorem dX5_tellArrival_28 : decode cX5_tellArrival 28 = .ok (.goto 9, 3) := by decide +kernel
theorem dX5_tellArrival_31 : decode cX5_tellArrival 31 = .ok (.aload_n 0, 1) := by decide +kernel
theorem dX5_tellArrival_32 : decode cX5_tellArrival 32 = .ok (.getfield 25, 3) := by decide +kernel
theorem dX5_tellArrival_35 : decode cX5_tellArrival 35 = .ok (.iload_n 2, 1) := by decide +kernel
theorem dX5_tellArrival_36 : decode cX5_tellArrival 36 = .ok (.iaload, 1) := by decide +kernel
theorem dX5_tellArrival_37 : decode cX5_tellArrival 37 = .ok (.istore_n 3, 1) := by decide +kernel
theorem dX5_tellArrival_38 : decode cX5_tellArrival 38 = .ok (.aload_n 0, 1) := by decide +kernel
theorem dX5_tellArrival_39 : decode cX5_tellArrival 39 = .ok (.iload_n 2, 1) := by decide +kernel
theorem dX5_tellArrival_40 : decode cX5_tellArrival 40 = .ok (.invokevirtual 86, 3) := by decide +kernel
theorem dX5_tellArrival_43 : decode cX5_tellArrival 43 = .ok (.ifCond .eq 89, 3) := by decide +kernel
theorem dX5_tellArrival_46 : decode cX5_tellArrival 46 = .ok (.aload_n 0, 1) := by decide +kernel
theorem dX5_tellArrival_47 : decode cX5_tellArrival 47 = .ok (.iload_n 2, 1) := by decide +kernel
theorem dX5_tellArrival_48 : decode cX5_tellArrival 48 = .ok (.invokevirtual 107, 3) := by decide +kernel
theorem dX5_tellArrival_51 : decode cX5_tellArrival 51 = .ok (.ifCond .eq 7, 3) := by decide +kernel
theorem dX5_tellArrival_54 : decode cX5_tellArrival 54 = .ok (.iconst (-1), 1) := by decide +kernel
theorem dX5_tellArrival_55 : decode cX5_tellArrival 55 = .ok (.goto 76, 3) := by decide +kernel
theorem dX5_tellArrival_58 : decode cX5_tellArrival 58 = .ok (.aload_n 0, 1) := by decide +kernel
theorem dX5_tellArrival_59 : decode cX5_tellArrival 59 = .ok (.iload_n 2, 1) := by decide +kernel
theorem dX5_tellArrival_60 : decode cX5_tellArrival 60 = .ok (.aload_n 0, 1) := by decide +kernel
theorem dX5_tellArrival_61 : decode cX5_tellArrival 61 = .ok (.aload_n 0, 1) := by decide +kernel
theorem dX5_tellArrival_62 : decode cX5_tellArrival 62 = .ok (.getfield 16, 3) := by decide +kernel
theorem dX5_tellArrival_65 : decode cX5_tellArrival 65 = .ok (.iload_n 2, 1) := by decide +kernel
theorem dX5_tellArrival_66 : decode cX5_tellArrival 66 = .ok (.iaload, 1) := by decide +kernel
theorem dX5_tellArrival_67 : decode cX5_tellArrival 67 = .ok (.invokevirtual 113, 3) := by decide +kernel
theorem dX5_tellArrival_70 : decode cX5_tellArrival 70 = .ok (.aload_n 0, 1) := by decide +kernel
theorem dX5_tellArrival_71 : decode cX5_tellArrival 71 = .ok (.getfield 19, 3) := by decide +kernel
theorem dX5_tellArrival_74 : decode cX5_tellArrival 74 = .ok (.iload_n 2, 1) := by decide +kernel
theorem dX5_tellArrival_75 : decode cX5_tellArrival 75 = .ok (.iaload, 1) := by decide +kernel
theorem dX5_tellArrival_76 : decode cX5_tellArrival 76 = .ok (.iconst (-1), 1) := by decide +kernel
theorem dX5_tellArrival_77 : decode cX5_tellArrival 77 = .ok (.if_icmp .ne 9, 3) := by decide +kernel
theorem dX5_tellArrival_80 : decode cX5_tellArrival 80 = .ok (.sipush 999, 3) := by decide +kernel
theorem dX5_tellArrival_83 : decode cX5_tellArrival 83 = .ok (.goto 13, 3) := by decide +kernel
theorem dX5_tellArrival_86 : decode cX5_tellArrival 86 = .ok (.aload_n 0, 1) := by decide +kernel
theorem dX5_tellArrival_87 : decode cX5_tellArrival 87 = .ok (.aload_n 0, 1) := by decide +kernel
theorem dX5_tellArrival_88 : decode cX5_tellArrival 88 = .ok (.getfield 19, 3) := by decide +kernel
theorem dX5_tellArrival_91 : decode cX5_tellArrival 91 = .ok (.iload_n 2, 1) := by decide +kernel
theorem dX5_tellArrival_92 : decode cX5_tellArrival 92 = .ok (.iaload, 1) := by decide +kernel
theorem dX5_tellArrival_93 : decode cX5_tellArrival 93 = .ok (.invokevirtual 113, 3) := by decide +kernel
theorem dX5_tellArrival_96 : decode cX5_tellArrival 96 = .ok (.aload_n 0, 1) := by decide +kernel
theorem dX5_tellArrival_97 : decode cX5_tellArrival 97 = .ok (.getfield 22, 3) := by decide +kernel
theorem dX5_tellArrival_100 : decode cX5_tellArrival 100 = .ok (.iload_n 2, 1) := by decide +kernel
theorem dX5_tellArrival_101 : decode cX5_tellArrival 101 = .ok (.iaload, 1) := by decide +kernel
theorem dX5_tellArrival_102 : decode cX5_tellArrival 102 = .ok (.iconst (-1), 1) := by decide +kernel
theorem dX5_tellArrival_103 : decode cX5_tellArrival 103 = .ok (.if_icmp .ne 9, 3) := by decide +kernel
theorem dX5_tellArrival_106 : decode cX5_tellArrival 106 = .ok (.sipush 999, 3) := by decide +kernel
theorem dX5_tellArrival_109 : decode cX5_tellArrival 109 = .ok (.goto 13, 3) := by decide +kernel
theorem dX5_tellArrival_112 : decode cX5_tellArrival 112 = .ok (.aload_n 0, 1) := by decide +kernel
theorem dX5_tellArrival_113 : decode cX5_tellArrival 113 = .ok (.aload_n 0, 1) := by decide +kernel
theorem dX5_tellArrival_114 : decode cX5_tellArrival 114 = .ok (.getfield 22, 3) := by decide +kernel
theorem dX5_tellArrival_117 : decode cX5_tellArrival 117 = .ok (.iload_n 2, 1) := by decide +kernel
theorem dX5_tellArrival_118 : decode cX5_tellArrival 118 = .ok (.iaload, 1) := by decide +kernel
theorem dX5_tellArrival_119 : decode cX5_tellArrival 119 = .ok (.invokevirtual 113, 3) := by decide +kernel
theorem dX5_tellArrival_122 : decode cX5_tellArrival 122 = .ok (.invokestatic 119, 3) := by decide +kernel
theorem dX5_tellArrival_125 : decode cX5_tellArrival 125 = .ok (.invokestatic 119, 3) := by decide +kernel
theorem dX5_tellArrival_128 : decode cX5_tellArrival 128 = .ok (.invokevirtual 125, 3) := by decide +kernel
theorem dX5_tellArrival_131 : decode cX5_tellArrival 131 = .ok (.istore_n 3, 1) := by decide +kernel
theorem dX5_tellArrival_132 : decode cX5_tellArrival 132 = .ok (.aload_n 0, 1) := by decide +kernel
theorem dX5_tellArrival_133 : decode cX5_tellArrival 133 = .ok (.getfield 43, 3) := by decide +kernel
theorem dX5_tellArrival_136 : decode cX5_tellArrival 136 = .ok (.iload_n 1, 1) := by decide +kernel
theorem dX5_tellArrival_137 : decode cX5_tellArrival 137 = .ok (.iconst 1, 1) := by decide +kernel
theorem dX5_tellArrival_138 : decode cX5_tellArrival 138 = .ok (.bastore, 1) := by decide +kernel
theorem dX5_tellArrival_139 : decode cX5_tellArrival 139 = .ok (.aload_n 0, 1) := by decide +kernel
theorem dX5_tellArrival_140 : decode cX5_tellArrival 140 = .ok (.getfield 40, 3) := by decide +kernel
theorem dX5_tellArrival_143 : decode cX5_tellArrival 143 = .ok (.iload_n 1, 1) := by decide +kernel
theorem dX5_tellArrival_144 : decode cX5_tellArrival 144 = .ok (.iload_n 3, 1) := by decide +kernel
theorem dX5_tellArrival_145 : decode cX5_tellArrival 145 = .ok (.iastore, 1) := by decide +kernel
theorem dX5_tellArrival_146 : decode cX5_tellArrival 146 = .ok (.iload_n 3, 1) := by decide +kernel
theorem dX5_tellArrival_147 : decode cX5_tellArrival 147 = .ok (.ireturn, 1) := by decide +kernel
theorem dX5_behind_0 : decode cX5_behind 0 = .ok (.iload_n 2, 1) := by decide +kernel
theorem dX5_behind_1 : decode cX5_behind 1 = .ok (.iconst (-1), 1) := by decide +kernel
theorem dX5_behind_2 : decode cX5_behind 2 = .ok (.if_icmp .ne 5, 3) := by decide +kernel
theorem dX5_behind_5 : decode cX5_behind 5 = .ok (.iconst (-1), 1) := by decide +kernel
theorem dX5_behind_6 : decode cX5_behind 6 = .ok (.ireturn, 1) := by decide +kernel
theorem dX5_behind_7 : decode cX5_behind 7 = .ok (.aload_n 0, 1) := by decide +kernel
theorem dX5_behind_8 : decode cX5_behind 8 = .ok (.getfield 25, 3) := by decide +kernel
theorem dX5_behind_11 : decode cX5_behind 11 = .ok (.iload_n 1, 1) := by decide +kernel
theorem dX5_behind_12 : decode cX5_behind 12 = .ok (.iaload, 1) := by decide +kernel
theorem dX5_behind_13 : decode cX5_behind 13 = .ok (.aload_n 0, 1) := by decide +kernel
theorem dX5_behind_14 : decode cX5_behind 14 = .ok (.getfield 40, 3) := by decide +kernel
theorem dX5_behind_17 : decode cX5_behind 17 = .ok (.aload_n 0, 1) := by decide +kernel
theorem dX5_behind_18 : decode cX5_behind 18 = .ok (.getfield 16, 3) := by decide +kernel
theorem dX5_behind_21 : decode cX5_behind 21 = .ok (.iload_n 1, 1) := by decide +kernel
theorem dX5_behind_22 : decode cX5_behind 22 = .ok (.iaload, 1) := by decide +kernel
theorem dX5_behind_23 : decode cX5_behind 23 = .ok (.iaload, 1) := by decide +kernel
theorem dX5_behind_24 : decode cX5_behind 24 = .ok (.aload_n 0, 1) := by decide +kernel
theorem dX5_behind_25 : decode cX5_behind 25 = .ok (.getfield 19, 3) := by decide +kernel
theorem dX5_behind_28 : decode cX5_behind 28 = .ok (.iload_n 1, 1) := by decide +kernel
theorem dX5_behind_29 : decode cX5_behind 29 = .ok (.iaload, 1) := by decide +kernel
theorem dX5_behind_30 : decode cX5_behind 30 = .ok (.iconst (-1), 1) := by decide +kernel
theorem dX5_behind_31 : decode cX5_behind 31 = .ok (.if_icmp .ne 7, 3) := by decide +kernel
theorem dX5_behind_34 : decode cX5_behind 34 = .ok (.iconst 0, 1) := by decide +kernel
theorem dX5_behind_35 : decode cX5_behind 35 = .ok (.goto 14, 3) := by decide +kernel
theorem dX5_behind_38 : decode cX5_behind 38 = .ok (.aload_n 0, 1) := by decide +kernel
theorem dX5_behind_39 : decode cX5_behind 39 = .ok (.getfield 40, 3) := by decide +kernel
theorem dX5_behind_42 : decode cX5_behind 42 = .ok (.aload_n 0, 1) := by decide +kernel
theorem dX5_behind_43 : decode cX5_behind 43 = .ok (.getfield 19, 3) := by decide +kernel
theorem dX5_behind_46 : decode cX5_behind 46 = .ok (.iload_n 1, 1) := by decide +kernel
theorem dX5_behind_47 : decode cX5_behind 47 = .ok (.iaload, 1) := by decide +kernel
theorem dX5_behind_48 : decode cX5_behind 48 = .ok (.iaload, 1) := by decide +kernel
theorem dX5_behind_49 : decode cX5_behind 49 = .ok (.aload_n 0, 1) := by decide +kernel
theorem dX5_behind_50 : decode cX5_behind 50 = .ok (.getfield 22, 3) := by decide +kernel
theorem dX5_behind_53 : decode cX5_behind 53 = .ok (.iload_n 1, 1) := by decide +kernel
theorem dX5_behind_54 : decode cX5_behind 54 = .ok (.iaload, 1) := by decide +kernel
theorem dX5_behind_55 : decode cX5_behind 55 = .ok (.iconst (-1), 1) := by decide +kernel
theorem dX5_behind_56 : decode cX5_behind 56 = .ok (.if_icmp .ne 7, 3) := by decide +kernel
theorem dX5_behind_59 : decode cX5_behind 59 = .ok (.iconst 0, 1) := by decide +kernel
theorem dX5_behind_60 : decode cX5_behind 60 = .ok (.goto 14, 3) := by decide +kernel
theorem dX5_behind_63 : decode cX5_behind 63 = .ok (.aload_n 0, 1) := by decide +kernel
theorem dX5_behind_64 : decode cX5_behind 64 = .ok (.getfield 40, 3) := by decide +kernel
theorem dX5_behind_67 : decode cX5_behind 67 = .ok (.aload_n 0, 1) := by decide +kernel
theorem dX5_behind_68 : decode cX5_behind 68 = .ok (.getfield 22, 3) := by decide +kernel
theorem dX5_behind_71 : decode cX5_behind 71 = .ok (.iload_n 1, 1) := by decide +kernel
theorem dX5_behind_72 : decode cX5_behind 72 = .ok (.iaload, 1) := by decide +kernel
theorem dX5_behind_73 : decode cX5_behind 73 = .ok (.iaload, 1) := by decide +kernel
theorem dX5_behind_74 : decode cX5_behind 74 = .ok (.invokestatic 128, 3) := by decide +kernel
theorem dX5_behind_77 : decode cX5_behind 77 = .ok (.invokestatic 128, 3) := by decide +kernel
theorem dX5_behind_80 : decode cX5_behind 80 = .ok (.iadd, 1) := by decide +kernel
theorem dX5_behind_81 : decode cX5_behind 81 = .ok (.ireturn, 1) := by decide +kernel
theorem dX5_arrival_0 : decode cX5_arrival 0 = .ok (.aload_n 0, 1) := by decide +kernel
theorem dX5_arrival_1 : decode cX5_arrival 1 = .ok (.iconst 0, 1) := by decide +kernel
theorem dX5_arrival_2 : decode cX5_arrival 2 = .ok (.putfield 50, 3) := by decide +kernel
theorem dX5_arrival_5 : decode cX5_arrival 5 = .ok (.iload_n 1, 1) := by decide +kernel
theorem dX5_arrival_6 : decode cX5_arrival 6 = .ok (.invokestatic 65, 3) := by decide +kernel
theorem dX5_arrival_9 : decode cX5_arrival 9 = .ok (.ifCond .ne 9, 3) := by decide +kernel
theorem dX5_arrival_12 : decode cX5_arrival 12 = .ok (.aload_n 0, 1) := by decide +kernel
theorem dX5_arrival_13 : decode cX5_arrival 13 = .ok (.iconst 1, 1) := by decide +kernel
theorem dX5_arrival_14 : decode cX5_arrival 14 = .ok (.invokevirtual 69, 3) := by decide +kernel
theorem dX5_arrival_17 : decode cX5_arrival 17 = .ok (.ireturn, 1) := by decide +kernel
theorem dX5_arrival_18 : decode cX5_arrival 18 = .ok (.aload_n 0, 1) := by decide +kernel
theorem dX5_arrival_19 : decode cX5_arrival 19 = .ok (.invokevirtual 131, 3) := by decide +kernel
theorem dX5_arrival_22 : decode cX5_arrival 22 = .ok (.aload_n 0, 1) := by decide +kernel
theorem dX5_arrival_23 : decode cX5_arrival 23 = .ok (.getfield 40, 3) := by decide +kernel
theorem dX5_arrival_26 : decode cX5_arrival 26 = .ok (.iload_n 1, 1) := by decide +kernel
theorem dX5_arrival_27 : decode cX5_arrival 27 = .ok (.iaload, 1) := by decide +kernel
theorem dX5_arrival_28 : decode cX5_arrival 28 = .ok (.ireturn, 1) := by decide +kernel
theorem dX5_longestNow_0 : decode cX5_longestNow 0 = .ok (.aload_n 0, 1) := by decide +kernel
theorem dX5_longestNow_1 : decode cX5_longestNow 1 = .ok (.invokevirtual 131, 3) := by decide +kernel
theorem dX5_longestNow_4 : decode cX5_longestNow 4 = .ok (.iconst 0, 1) := by decide +kernel
theorem dX5_longestNow_5 : decode cX5_longestNow 5 = .ok (.istore_n 1, 1) := by decide +kernel
theorem dX5_longestNow_6 : decode cX5_longestNow 6 = .ok (.iconst 0, 1) := by decide +kernel
theorem dX5_longestNow_7 : decode cX5_longestNow 7 = .ok (.istore_n 2, 1) := by decide +kernel
theorem dX5_longestNow_8 : decode cX5_longestNow 8 = .ok (.iload_n 2, 1) := by decide +kernel
theorem dX5_longestNow_9 : decode cX5_longestNow 9 = .ok (.bipush 24, 2) := by decide +kernel
theorem dX5_longestNow_11 : decode cX5_longestNow 11 = .ok (.if_icmp .ge 20, 3) := by decide +kernel
theorem dX5_longestNow_14 : decode cX5_longestNow 14 = .ok (.iload_n 1, 1) := by decide +kernel
theorem dX5_longestNow_15 : decode cX5_longestNow 15 = .ok (.aload_n 0, 1) := by decide +kernel
theorem dX5_longestNow_16 : decode cX5_longestNow 16 = .ok (.getfield 40, 3) := by decide +kernel
theorem dX5_longestNow_19 : decode cX5_longestNow 19 = .ok (.iload_n 2, 1) := by decide +kernel
theorem dX5_longestNow_20 : decode cX5_longestNow 20 = .ok (.iaload, 1) := by decide +kernel
theorem dX5_longestNow_21 : decode cX5_longestNow 21 = .ok (.invokestatic 128, 3) := by decide +kernel
theorem dX5_longestNow_24 : decode cX5_longestNow 24 = .ok (.istore_n 1, 1) := by decide +kernel
theorem dX5_longestNow_25 : decode cX5_longestNow 25 = .ok (.iinc 2 1, 3) := by decide +kernel
theorem dX5_longestNow_28 : decode cX5_longestNow 28 = .ok (.goto (-20), 3) := by decide +kernel
theorem dX5_longestNow_31 : decode cX5_longestNow 31 = .ok (.iload_n 1, 1) := by decide +kernel
theorem dX5_longestNow_32 : decode cX5_longestNow 32 = .ok (.ireturn, 1) := by decide +kernel
theorem dX5_longest_0 : decode cX5_longest 0 = .ok (.aload_n 0, 1) := by decide +kernel
theorem dX5_longest_1 : decode cX5_longest 1 = .ok (.aload_n 0, 1) := by decide +kernel
theorem dX5_longest_2 : decode cX5_longest 2 = .ok (.invokevirtual 134, 3) := by decide +kernel
theorem dX5_longest_5 : decode cX5_longest 5 = .ok (.invokevirtual 83, 3) := by decide +kernel
theorem dX5_longest_8 : decode cX5_longest 8 = .ok (.ireturn, 1) := by decide +kernel
theorem dX5_wayNow_0 : decode cX5_wayNow 0 = .ok (.aload_n 0, 1) := by decide +kernel
theorem dX5_wayNow_1 : decode cX5_wayNow 1 = .ok (.invokevirtual 131, 3) := by decide +kernel
theorem dX5_wayNow_4 : decode cX5_wayNow 4 = .ok (.iconst (-1), 1) := by decide +kernel
theorem dX5_wayNow_5 : decode cX5_wayNow 5 = .ok (.istore_n 2, 1) := by decide +kernel
theorem dX5_wayNow_6 : decode cX5_wayNow 6 = .ok (.iconst 0, 1) := by decide +kernel
theorem dX5_wayNow_7 : decode cX5_wayNow 7 = .ok (.istore_n 3, 1) := by decide +kernel
theorem dX5_wayNow_8 : decode cX5_wayNow 8 = .ok (.iload_n 3, 1) := by decide +kernel
theorem dX5_wayNow_9 : decode cX5_wayNow 9 = .ok (.bipush 24, 2) := by decide +kernel
theorem dX5_wayNow_11 : decode cX5_wayNow 11 = .ok (.if_icmp .ge 50, 3) := by decide +kernel
theorem dX5_wayNow_14 : decode cX5_wayNow 14 = .ok (.aload_n 0, 1) := by decide +kernel
theorem dX5_wayNow_15 : decode cX5_wayNow 15 = .ok (.iload_n 3, 1) := by decide +kernel
theorem dX5_wayNow_16 : decode cX5_wayNow 16 = .ok (.invokevirtual 116, 3) := by decide +kernel
theorem dX5_wayNow_19 : decode cX5_wayNow 19 = .ok (.iconst (-1), 1) := by decide +kernel
theorem dX5_wayNow_20 : decode cX5_wayNow 20 = .ok (.if_icmp .eq 35, 3) := by decide +kernel
theorem dX5_wayNow_23 : decode cX5_wayNow 23 = .ok (.aload_n 0, 1) := by decide +kernel
theorem dX5_wayNow_24 : decode cX5_wayNow 24 = .ok (.getfield 40, 3) := by decide +kernel
theorem dX5_wayNow_27 : decode cX5_wayNow 27 = .ok (.iload_n 3, 1) := by decide +kernel
theorem dX5_wayNow_28 : decode cX5_wayNow 28 = .ok (.iaload, 1) := by decide +kernel
theorem dX5_wayNow_29 : decode cX5_wayNow 29 = .ok (.iconst (-1), 1) := by decide +kernel
theorem dX5_wayNow_30 : decode cX5_wayNow 30 = .ok (.if_icmp .eq 25, 3) := by decide +kernel
theorem dX5_wayNow_33 : decode cX5_wayNow 33 = .ok (.iload_n 2, 1) := by decide +kernel
theorem dX5_wayNow_34 : decode cX5_wayNow 34 = .ok (.iconst (-1), 1) := by decide +kernel
theorem dX5_wayNow_35 : decode cX5_wayNow 35 = .ok (.if_icmp .eq 18, 3) := by decide +kernel
theorem dX5_wayNow_38 : decode cX5_wayNow 38 = .ok (.aload_n 0, 1) := by decide +kernel
theorem dX5_wayNow_39 : decode cX5_wayNow 39 = .ok (.getfield 40, 3) := by decide +kernel
theorem dX5_wayNow_42 : decode cX5_wayNow 42 = .ok (.iload_n 3, 1) := by decide +kernel
theorem dX5_wayNow_43 : decode cX5_wayNow 43 = .ok (.iaload, 1) := by decide +kernel
theorem dX5_wayNow_44 : decode cX5_wayNow 44 = .ok (.aload_n 0, 1) := by decide +kernel
theorem dX5_wayNow_45 : decode cX5_wayNow 45 = .ok (.getfield 40, 3) := by decide +kernel
theorem dX5_wayNow_48 : decode cX5_wayNow 48 = .ok (.iload_n 2, 1) := by decide +kernel
theorem dX5_wayNow_49 : decode cX5_wayNow 49 = .ok (.iaload, 1) := by decide +kernel
theorem dX5_wayNow_50 : decode cX5_wayNow 50 = .ok (.if_icmp .le 5, 3) := by decide +kernel
theorem dX5_wayNow_53 : decode cX5_wayNow 53 = .ok (.iload_n 3, 1) := by decide +kernel
theorem dX5_wayNow_54 : decode cX5_wayNow 54 = .ok (.istore_n 2, 1) := by decide +kernel
theorem dX5_wayNow_55 : decode cX5_wayNow 55 = .ok (.iinc 3 1, 3) := by decide +kernel
theorem dX5_wayNow_58 : decode cX5_wayNow 58 = .ok (.goto (-50), 3) := by decide +kernel
theorem dX5_wayNow_61 : decode cX5_wayNow 61 = .ok (.iconst 0, 1) := by decide +kernel
theorem dX5_wayNow_62 : decode cX5_wayNow 62 = .ok (.istore_n 3, 1) := by decide +kernel
theorem dX5_wayNow_63 : decode cX5_wayNow 63 = .ok (.iload_n 3, 1) := by decide +kernel
theorem dX5_wayNow_64 : decode cX5_wayNow 64 = .ok (.iload_n 1, 1) := by decide +kernel
theorem dX5_wayNow_65 : decode cX5_wayNow 65 = .ok (.if_icmp .ge 120, 3) := by decide +kernel
theorem dX5_wayNow_68 : decode cX5_wayNow 68 = .ok (.iload_n 2, 1) := by decide +kernel
theorem dX5_wayNow_69 : decode cX5_wayNow 69 = .ok (.iconst (-1), 1) := by decide +kernel
theorem dX5_wayNow_70 : decode cX5_wayNow 70 = .ok (.if_icmp .eq 115, 3) := by decide +kernel
theorem dX5_wayNow_73 : decode cX5_wayNow 73 = .ok (.aload_n 0, 1) := by decide +kernel
theorem dX5_wayNow_74 : decode cX5_wayNow 74 = .ok (.iload_n 2, 1) := by decide +kernel
theorem dX5_wayNow_75 : decode cX5_wayNow 75 = .ok (.invokevirtual 116, 3) := by decide +kernel
theorem dX5_wayNow_78 : decode cX5_wayNow 78 = .ok (.istore 4, 2) := by decide +kernel
theorem dX5_wayNow_80 : decode cX5_wayNow 80 = .ok (.aload_n 0, 1) := by decide +kernel
theorem dX5_wayNow_81 : decode cX5_wayNow 81 = .ok (.iload 4, 2) := by decide +kernel
theorem dX5_wayNow_83 : decode cX5_wayNow 83 = .ok (.invokevirtual 86, 3) := by decide +kernel
theorem dX5_wayNow_86 : decode cX5_wayNow 86 = .ok (.ifCond .ne 5, 3) := by decide +kernel
theorem dX5_wayNow_89 : decode cX5_wayNow 89 = .ok (.iconst (-1), 1) := by decide +kernel
theorem dX5_wayNow_90 : decode cX5_wayNow 90 = .ok (.ireturn, 1) := by decide +kernel
theorem dX5_wayNow_91 : decode cX5_wayNow 91 = .ok (.aload_n 0, 1) := by decide +kernel
theorem dX5_wayNow_92 : decode cX5_wayNow 92 = .ok (.getfield 16, 3) := by decide +kernel
theorem dX5_wayNow_95 : decode cX5_wayNow 95 = .ok (.iload 4, 2) := by decide +kernel
theorem dX5_wayNow_97 : decode cX5_wayNow 97 = .ok (.iaload, 1) := by decide +kernel
theorem dX5_wayNow_98 : decode cX5_wayNow 98 = .ok (.istore_n 2, 1) := by decide +kernel
theorem dX5_wayNow_99 : decode cX5_wayNow 99 = .ok (.aload_n 0, 1) := by decide +kernel
theorem dX5_wayNow_100 : decode cX5_wayNow 100 = .ok (.getfield 19, 3) := by decide +kernel
theorem dX5_wayNow_103 : decode cX5_wayNow 103 = .ok (.iload 4, 2) := by decide +kernel
theorem dX5_wayNow_105 : decode cX5_wayNow 105 = .ok (.iaload, 1) := by decide +kernel
theorem dX5_wayNow_106 : decode cX5_wayNow 106 = .ok (.iconst (-1), 1) := by decide +kernel
theorem dX5_wayNow_107 : decode cX5_wayNow 107 = .ok (.if_icmp .eq 32, 3) := by decide +kernel
theorem dX5_wayNow_110 : decode cX5_wayNow 110 = .ok (.aload_n 0, 1) := by decide +kernel
theorem dX5_wayNow_111 : decode cX5_wayNow 111 = .ok (.getfield 40, 3) := by decide +kernel
theorem dX5_wayNow_114 : decode cX5_wayNow 114 = .ok (.aload_n 0, 1) := by decide +kernel
theorem dX5_wayNow_115 : decode cX5_wayNow 115 = .ok (.getfield 19, 3) := by decide +kernel
theorem dX5_wayNow_118 : decode cX5_wayNow 118 = .ok (.iload 4, 2) := by decide +kernel
theorem dX5_wayNow_120 : decode cX5_wayNow 120 = .ok (.iaload, 1) := by decide +kernel
theorem dX5_wayNow_121 : decode cX5_wayNow 121 = .ok (.iaload, 1) := by decide +kernel
theorem dX5_wayNow_122 : decode cX5_wayNow 122 = .ok (.aload_n 0, 1) := by decide +kernel
theorem dX5_wayNow_123 : decode cX5_wayNow 123 = .ok (.getfield 40, 3) := by decide +kernel
theorem dX5_wayNow_126 : decode cX5_wayNow 126 = .ok (.iload_n 2, 1) := by decide +kernel
theorem dX5_wayNow_127 : decode cX5_wayNow 127 = .ok (.iaload, 1) := by decide +kernel
theorem dX5_wayNow_128 : decode cX5_wayNow 128 = .ok (.if_icmp .le 11, 3) := by decide +kernel
theorem dX5_wayNow_131 : decode cX5_wayNow 131 = .ok (.aload_n 0, 1) := by decide +kernel
theorem dX5_wayNow_132 : decode cX5_wayNow 132 = .ok (.getfield 19, 3) := by decide +kernel
theorem dX5_wayNow_135 : decode cX5_wayNow 135 = .ok (.iload 4, 2) := by decide +kernel
theorem dX5_wayNow_137 : decode cX5_wayNow 137 = .ok (.iaload, 1) := by decide +kernel
theorem dX5_wayNow_138 : decode cX5_wayNow 138 = .ok (.istore_n 2, 1) := by decide +kernel
theorem dX5_wayNow_139 : decode cX5_wayNow 139 = .ok (.aload_n 0, 1) := by decide +kernel
theorem dX5_wayNow_140 : decode cX5_wayNow 140 = .ok (.getfield 22, 3) := by decide +kernel
theorem dX5_wayNow_143 : decode cX5_wayNow 143 = .ok (.iload 4, 2) := by decide +kernel
theorem dX5_wayNow_145 : decode cX5_wayNow 145 = .ok (.iaload, 1) := by decide +kernel
theorem dX5_wayNow_146 : decode cX5_wayNow 146 = .ok (.iconst (-1), 1) := by decide +kernel
theorem dX5_wayNow_147 : decode cX5_wayNow 147 = .ok (.if_icmp .eq 32, 3) := by decide +kernel
theorem dX5_wayNow_150 : decode cX5_wayNow 150 = .ok (.aload_n 0, 1) := by decide +kernel
theorem dX5_wayNow_151 : decode cX5_wayNow 151 = .ok (.getfield 40, 3) := by decide +kernel
theorem dX5_wayNow_154 : decode cX5_wayNow 154 = .ok (.aload_n 0, 1) := by decide +kernel
theorem dX5_wayNow_155 : decode cX5_wayNow 155 = .ok (.getfield 22, 3) := by decide +kernel
theorem dX5_wayNow_158 : decode cX5_wayNow 158 = .ok (.iload 4, 2) := by decide +kernel
theorem dX5_wayNow_160 : decode cX5_wayNow 160 = .ok (.iaload, 1) := by decide +kernel
theorem dX5_wayNow_161 : decode cX5_wayNow 161 = .ok (.iaload, 1) := by decide +kernel
theorem dX5_wayNow_162 : decode cX5_wayNow 162 = .ok (.aload_n 0, 1) := by decide +kernel
theorem dX5_wayNow_163 : decode cX5_wayNow 163 = .ok (.getfield 40, 3) := by decide +kernel
theorem dX5_wayNow_166 : decode cX5_wayNow 166 = .ok (.iload_n 2, 1) := by decide +kernel
theorem dX5_wayNow_167 : decode cX5_wayNow 167 = .ok (.iaload, 1) := by decide +kernel
theorem dX5_wayNow_168 : decode cX5_wayNow 168 = .ok (.if_icmp .le 11, 3) := by decide +kernel
theorem dX5_wayNow_171 : decode cX5_wayNow 171 = .ok (.aload_n 0, 1) := by decide +kernel
theorem dX5_wayNow_172 : decode cX5_wayNow 172 = .ok (.getfield 22, 3) := by decide +kernel
theorem dX5_wayNow_175 : decode cX5_wayNow 175 = .ok (.iload 4, 2) := by decide +kernel
theorem dX5_wayNow_177 : decode cX5_wayNow 177 = .ok (.iaload, 1) := by decide +kernel
theorem dX5_wayNow_178 : decode cX5_wayNow 178 = .ok (.istore_n 2, 1) := by decide +kernel
theorem dX5_wayNow_179 : decode cX5_wayNow 179 = .ok (.iinc 3 1, 3) := by decide +kernel
theorem dX5_wayNow_182 : decode cX5_wayNow 182 = .ok (.goto (-119), 3) := by decide +kernel
theorem dX5_wayNow_185 : decode cX5_wayNow 185 = .ok (.iload_n 2, 1) := by decide +kernel
theorem dX5_wayNow_186 : decode cX5_wayNow 186 = .ok (.ireturn, 1) := by decide +kernel
theorem dX5_way_0 : decode cX5_way 0 = .ok (.aload_n 0, 1) := by decide +kernel
theorem dX5_way_1 : decode cX5_way 1 = .ok (.iconst 0, 1) := by decide +kernel
theorem dX5_way_2 : decode cX5_way 2 = .ok (.putfield 50, 3) := by decide +kernel
theorem dX5_way_5 : decode cX5_way 5 = .ok (.iload_n 1, 1) := by decide +kernel
theorem dX5_way_6 : decode cX5_way 6 = .ok (.ifCond .ge 7, 3) := by decide +kernel
theorem dX5_way_9 : decode cX5_way 9 = .ok (.iconst (-1), 1) := by decide +kernel
theorem dX5_way_10 : decode cX5_way 10 = .ok (.goto 13, 3) := by decide +kernel
theorem dX5_way_13 : decode cX5_way 13 = .ok (.aload_n 0, 1) := by decide +kernel
theorem dX5_way_14 : decode cX5_way 14 = .ok (.iload_n 1, 1) := by decide +kernel
theorem dX5_way_15 : decode cX5_way 15 = .ok (.bipush 99, 2) := by decide +kernel
theorem dX5_way_17 : decode cX5_way 17 = .ok (.invokestatic 119, 3) := by decide +kernel
theorem dX5_way_20 : decode cX5_way 20 = .ok (.invokevirtual 138, 3) := by decide +kernel
theorem dX5_way_23 : decode cX5_way 23 = .ok (.ireturn, 1) := by decide +kernel
theorem dX5_users_0 : decode cX5_users 0 = .ok (.aload_n 0, 1) := by decide +kernel
theorem dX5_users_1 : decode cX5_users 1 = .ok (.iconst 0, 1) := by decide +kernel
theorem dX5_users_2 : decode cX5_users 2 = .ok (.putfield 50, 3) := by decide +kernel
theorem dX5_users_5 : decode cX5_users 5 = .ok (.iload_n 1, 1) := by decide +kernel
theorem dX5_users_6 : decode cX5_users 6 = .ok (.invokestatic 65, 3) := by decide +kernel
theorem dX5_users_9 : decode cX5_users 9 = .ok (.ifCond .eq 11, 3) := by decide +kernel
theorem dX5_users_12 : decode cX5_users 12 = .ok (.aload_n 0, 1) := by decide +kernel
theorem dX5_users_13 : decode cX5_users 13 = .ok (.iload_n 1, 1) := by decide +kernel
theorem dX5_users_14 : decode cX5_users 14 = .ok (.invokevirtual 104, 3) := by decide +kernel
theorem dX5_users_17 : decode cX5_users 17 = .ok (.goto 8, 3) := by decide +kernel
theorem dX5_users_20 : decode cX5_users 20 = .ok (.aload_n 0, 1) := by decide +kernel
theorem dX5_users_21 : decode cX5_users 21 = .ok (.iconst 1, 1) := by decide +kernel
theorem dX5_users_22 : decode cX5_users 22 = .ok (.invokevirtual 69, 3) := by decide +kernel
theorem dX5_users_25 : decode cX5_users 25 = .ok (.ireturn, 1) := by decide +kernel
theorem dX5_not_0 : decode cX5_not 0 = .ok (.iload_n 0, 1) := by decide +kernel
theorem dX5_not_1 : decode cX5_not 1 = .ok (.iconst 2, 1) := by decide +kernel
theorem dX5_not_2 : decode cX5_not 2 = .ok (.if_icmp .ne 7, 3) := by decide +kernel
theorem dX5_not_5 : decode cX5_not 5 = .ok (.iconst 2, 1) := by decide +kernel
theorem dX5_not_6 : decode cX5_not 6 = .ok (.goto 6, 3) := by decide +kernel
theorem dX5_not_9 : decode cX5_not 9 = .ok (.iconst 1, 1) := by decide +kernel
theorem dX5_not_10 : decode cX5_not 10 = .ok (.iload_n 0, 1) := by decide +kernel
theorem dX5_not_11 : decode cX5_not 11 = .ok (.isub, 1) := by decide +kernel
theorem dX5_not_12 : decode cX5_not 12 = .ok (.ireturn, 1) := by decide +kernel
theorem dX5_and_0 : decode cX5_and 0 = .ok (.iload_n 0, 1) := by decide +kernel
theorem dX5_and_1 : decode cX5_and 1 = .ok (.ifCond .eq 7, 3) := by decide +kernel
theorem dX5_and_4 : decode cX5_and 4 = .ok (.iload_n 1, 1) := by decide +kernel
theorem dX5_and_5 : decode cX5_and 5 = .ok (.ifCond .ne 5, 3) := by decide +kernel
theorem dX5_and_8 : decode cX5_and 8 = .ok (.iconst 0, 1) := by decide +kernel
theorem dX5_and_9 : decode cX5_and 9 = .ok (.ireturn, 1) := by decide +kernel
theorem dX5_and_10 : decode cX5_and 10 = .ok (.iload_n 0, 1) := by decide +kernel
theorem dX5_and_11 : decode cX5_and 11 = .ok (.iconst 1, 1) := by decide +kernel
theorem dX5_and_12 : decode cX5_and 12 = .ok (.if_icmp .ne 12, 3) := by decide +kernel
theorem dX5_and_15 : decode cX5_and 15 = .ok (.iload_n 1, 1) := by decide +kernel
theorem dX5_and_16 : decode cX5_and 16 = .ok (.iconst 1, 1) := by decide +kernel
theorem dX5_and_17 : decode cX5_and 17 = .ok (.if_icmp .ne 7, 3) := by decide +kernel
theorem dX5_and_20 : decode cX5_and 20 = .ok (.iconst 1, 1) := by decide +kernel
theorem dX5_and_21 : decode cX5_and 21 = .ok (.goto 4, 3) := by decide +kernel
theorem dX5_and_24 : decode cX5_and 24 = .ok (.iconst 2, 1) := by decide +kernel
theorem dX5_and_25 : decode cX5_and 25 = .ok (.ireturn, 1) := by decide +kernel
theorem dX5_valueOf_0 : decode cX5_valueOf 0 = .ok (.aload_n 0, 1) := by decide +kernel
theorem dX5_valueOf_1 : decode cX5_valueOf 1 = .ok (.getfield 34, 3) := by decide +kernel
theorem dX5_valueOf_4 : decode cX5_valueOf 4 = .ok (.bipush 6, 2) := by decide +kernel
theorem dX5_valueOf_6 : decode cX5_valueOf 6 = .ok (.iload_n 1, 1) := by decide +kernel
theorem dX5_valueOf_7 : decode cX5_valueOf 7 = .ok (.iadd, 1) := by decide +kernel
theorem dX5_valueOf_8 : decode cX5_valueOf 8 = .ok (.iaload, 1) := by decide +kernel
theorem dX5_valueOf_9 : decode cX5_valueOf 9 = .ok (.ireturn, 1) := by decide +kernel
theorem dX5_reckon_0 : decode cX5_reckon 0 = .ok (.aload_n 0, 1) := by decide +kernel
theorem dX5_reckon_1 : decode cX5_reckon 1 = .ok (.aload_n 0, 1) := by decide +kernel
theorem dX5_reckon_2 : decode cX5_reckon 2 = .ok (.getfield 16, 3) := by decide +kernel
theorem dX5_reckon_5 : decode cX5_reckon 5 = .ok (.iload_n 1, 1) := by decide +kernel
theorem dX5_reckon_6 : decode cX5_reckon 6 = .ok (.iaload, 1) := by decide +kernel
theorem dX5_reckon_7 : decode cX5_reckon 7 = .ok (.invokevirtual 141, 3) := by decide +kernel
theorem dX5_reckon_10 : decode cX5_reckon 10 = .ok (.istore_n 2, 1) := by decide +kernel
theorem dX5_reckon_11 : decode cX5_reckon 11 = .ok (.aload_n 0, 1) := by decide +kernel
theorem dX5_reckon_12 : decode cX5_reckon 12 = .ok (.getfield 19, 3) := by decide +kernel
theorem dX5_reckon_15 : decode cX5_reckon 15 = .ok (.iload_n 1, 1) := by decide +kernel
theorem dX5_reckon_16 : decode cX5_reckon 16 = .ok (.iaload, 1) := by decide +kernel
theorem dX5_reckon_17 : decode cX5_reckon 17 = .ok (.iconst (-1), 1) := by decide +kernel
theorem dX5_reckon_18 : decode cX5_reckon 18 = .ok (.if_icmp .ne 7, 3) := by decide +kernel
theorem dX5_reckon_21 : decode cX5_reckon 21 = .ok (.iconst 0, 1) := by decide +kernel
theorem dX5_reckon_22 : decode cX5_reckon 22 = .ok (.goto 13, 3) := by decide +kernel
theorem dX5_reckon_25 : decode cX5_reckon 25 = .ok (.aload_n 0, 1) := by decide +kernel
theorem dX5_reckon_26 : decode cX5_reckon 26 = .ok (.aload_n 0, 1) := by decide +kernel
theorem dX5_reckon_27 : decode cX5_reckon 27 = .ok (.getfield 19, 3) := by decide +kernel
theorem dX5_reckon_30 : decode cX5_reckon 30 = .ok (.iload_n 1, 1) := by decide +kernel
theorem dX5_reckon_31 : decode cX5_reckon 31 = .ok (.iaload, 1) := by decide +kernel
theorem dX5_reckon_32 : decode cX5_reckon 32 = .ok (.invokevirtual 141, 3) := by decide +kernel
theorem dX5_reckon_35 : decode cX5_reckon 35 = .ok (.istore_n 3, 1) := by decide +kernel
theorem dX5_reckon_36 : decode cX5_reckon 36 = .ok (.aload_n 0, 1) := by decide +kernel
theorem dX5_reckon_37 : decode cX5_reckon 37 = .ok (.getfield 9, 3) := by decide +kernel
theorem dX5_reckon_40 : decode cX5_reckon 40 = .ok (.iload_n 1, 1) := by decide +kernel
theorem dX5_reckon_41 : decode cX5_reckon 41 = .ok (.iaload, 1) := by decide +kernel
theorem dX5_reckon_42 : decode cX5_reckon 42 = .ok (.tableswitch 116 0 6 #[42, 47, 49, 55, 70, 95, 104], 42) := by decide +kernel
theorem dX5_reckon_84 : decode cX5_reckon 84 = .ok (.iload_n 2, 1) := by decide +kernel
theorem dX5_reckon_85 : decode cX5_reckon 85 = .ok (.invokestatic 144, 3) := by decide +kernel
theorem dX5_reckon_88 : decode cX5_reckon 88 = .ok (.ireturn, 1) := by decide +kernel
theorem dX5_reckon_89 : decode cX5_reckon 89 = .ok (.iload_n 2, 1) := by decide +kernel
theorem dX5_reckon_90 : decode cX5_reckon 90 = .ok (.ireturn, 1) := by decide +kernel
theorem dX5_reckon_91 : decode cX5_reckon 91 = .ok (.iload_n 2, 1) := by decide +kernel
theorem dX5_reckon_92 : decode cX5_reckon 92 = .ok (.iload_n 3, 1) := by decide +kernel
theorem dX5_reckon_93 : decode cX5_reckon 93 = .ok (.invokestatic 147, 3) := by decide +kernel
theorem dX5_reckon_96 : decode cX5_reckon 96 = .ok (.ireturn, 1) := by decide +kernel
theorem dX5_reckon_97 : decode cX5_reckon 97 = .ok (.iload_n 2, 1) := by decide +kernel
theorem dX5_reckon_98 : decode cX5_reckon 98 = .ok (.invokestatic 144, 3) := by decide +kernel
theorem dX5_reckon_101 : decode cX5_reckon 101 = .ok (.iload_n 3, 1) := by decide +kernel
theorem dX5_reckon_102 : decode cX5_reckon 102 = .ok (.invokestatic 144, 3) := by decide +kernel
theorem dX5_reckon_105 : decode cX5_reckon 105 = .ok (.invokestatic 147, 3) := by decide +kernel
theorem dX5_reckon_108 : decode cX5_reckon 108 = .ok (.invokestatic 144, 3) := by decide +kernel
theorem dX5_reckon_111 : decode cX5_reckon 111 = .ok (.ireturn, 1) := by decide +kernel
theorem dX5_reckon_112 : decode cX5_reckon 112 = .ok (.iload_n 2, 1) := by decide +kernel
theorem dX5_reckon_113 : decode cX5_reckon 113 = .ok (.iconst 2, 1) := by decide +kernel
theorem dX5_reckon_114 : decode cX5_reckon 114 = .ok (.if_icmp .eq 8, 3) := by decide +kernel
theorem dX5_reckon_117 : decode cX5_reckon 117 = .ok (.iload_n 3, 1) := by decide +kernel
theorem dX5_reckon_118 : decode cX5_reckon 118 = .ok (.iconst 2, 1) := by decide +kernel
theorem dX5_reckon_119 : decode cX5_reckon 119 = .ok (.if_icmp .ne 7, 3) := by decide +kernel
theorem dX5_reckon_122 : decode cX5_reckon 122 = .ok (.iconst 2, 1) := by decide +kernel
theorem dX5_reckon_123 : decode cX5_reckon 123 = .ok (.goto 13, 3) := by decide +kernel
theorem dX5_reckon_126 : decode cX5_reckon 126 = .ok (.iload_n 2, 1) := by decide +kernel
theorem dX5_reckon_127 : decode cX5_reckon 127 = .ok (.iload_n 3, 1) := by decide +kernel
theorem dX5_reckon_128 : decode cX5_reckon 128 = .ok (.if_icmp .ne 7, 3) := by decide +kernel
theorem dX5_reckon_131 : decode cX5_reckon 131 = .ok (.iconst 0, 1) := by decide +kernel
theorem dX5_reckon_132 : decode cX5_reckon 132 = .ok (.goto 4, 3) := by decide +kernel
theorem dX5_reckon_135 : decode cX5_reckon 135 = .ok (.iconst 1, 1) := by decide +kernel
theorem dX5_reckon_136 : decode cX5_reckon 136 = .ok (.ireturn, 1) := by decide +kernel
theorem dX5_reckon_137 : decode cX5_reckon 137 = .ok (.iload_n 2, 1) := by decide +kernel
theorem dX5_reckon_138 : decode cX5_reckon 138 = .ok (.iload_n 3, 1) := by decide +kernel
theorem dX5_reckon_139 : decode cX5_reckon 139 = .ok (.invokestatic 147, 3) := by decide +kernel
theorem dX5_reckon_142 : decode cX5_reckon 142 = .ok (.invokestatic 144, 3) := by decide +kernel
theorem dX5_reckon_145 : decode cX5_reckon 145 = .ok (.ireturn, 1) := by decide +kernel
theorem dX5_reckon_146 : decode cX5_reckon 146 = .ok (.iload_n 2, 1) := by decide +kernel
theorem dX5_reckon_147 : decode cX5_reckon 147 = .ok (.invokestatic 144, 3) := by decide +kernel
theorem dX5_reckon_150 : decode cX5_reckon 150 = .ok (.iload_n 3, 1) := by decide +kernel
theorem dX5_reckon_151 : decode cX5_reckon 151 = .ok (.invokestatic 144, 3) := by decide +kernel
theorem dX5_reckon_154 : decode cX5_reckon 154 = .ok (.invokestatic 147, 3) := by decide +kernel
theorem dX5_reckon_157 : decode cX5_reckon 157 = .ok (.ireturn, 1) := by decide +kernel
theorem dX5_reckon_158 : decode cX5_reckon 158 = .ok (.iload_n 2, 1) := by decide +kernel
theorem dX5_reckon_159 : decode cX5_reckon 159 = .ok (.iconst 1, 1) := by decide +kernel
theorem dX5_reckon_160 : decode cX5_reckon 160 = .ok (.if_icmp .ne 7, 3) := by decide +kernel
theorem dX5_reckon_163 : decode cX5_reckon 163 = .ok (.iload_n 3, 1) := by decide +kernel
theorem dX5_reckon_164 : decode cX5_reckon 164 = .ok (.goto 35, 3) := by decide +kernel
theorem dX5_reckon_167 : decode cX5_reckon 167 = .ok (.iload_n 2, 1) := by decide +kernel
theorem dX5_reckon_168 : decode cX5_reckon 168 = .ok (.ifCond .eq 17, 3) := by decide +kernel
theorem dX5_reckon_171 : decode cX5_reckon 171 = .ok (.iload_n 3, 1) := by decide +kernel
theorem dX5_reckon_172 : decode cX5_reckon 172 = .ok (.aload_n 0, 1) := by decide +kernel
theorem dX5_reckon_173 : decode cX5_reckon 173 = .ok (.aload_n 0, 1) := by decide +kernel
theorem dX5_reckon_174 : decode cX5_reckon 174 = .ok (.getfield 22, 3) := by decide +kernel
theorem dX5_reckon_177 : decode cX5_reckon 177 = .ok (.iload_n 1, 1) := by decide +kernel
theorem dX5_reckon_178 : decode cX5_reckon 178 = .ok (.iaload, 1) := by decide +kernel
theorem dX5_reckon_179 : decode cX5_reckon 179 = .ok (.invokevirtual 141, 3) := by decide +kernel
theorem dX5_reckon_182 : decode cX5_reckon 182 = .ok (.if_icmp .ne 16, 3) := by decide +kernel
theorem dX5_reckon_185 : decode cX5_reckon 185 = .ok (.aload_n 0, 1) := by decide +kernel
theorem dX5_reckon_186 : decode cX5_reckon 186 = .ok (.aload_n 0, 1) := by decide +kernel
theorem dX5_reckon_187 : decode cX5_reckon 187 = .ok (.getfield 22, 3) := by decide +kernel
theorem dX5_reckon_190 : decode cX5_reckon 190 = .ok (.iload_n 1, 1) := by decide +kernel
theorem dX5_reckon_191 : decode cX5_reckon 191 = .ok (.iaload, 1) := by decide +kernel
theorem dX5_reckon_192 : decode cX5_reckon 192 = .ok (.invokevirtual 141, 3) := by decide +kernel
theorem dX5_reckon_195 : decode cX5_reckon 195 = .ok (.goto 4, 3) := by decide +kernel
theorem dX5_reckon_198 : decode cX5_reckon 198 = .ok (.iconst 2, 1) := by decide +kernel
theorem dX5_reckon_199 : decode cX5_reckon 199 = .ok (.ireturn, 1) := by decide +kernel
theorem dX5_change_0 : decode cX5_change 0 = .ok (.aload_n 0, 1) := by decide +kernel
theorem dX5_change_1 : decode cX5_change 1 = .ok (.iload_n 1, 1) := by decide +kernel
theorem dX5_change_2 : decode cX5_change 2 = .ok (.invokevirtual 141, 3) := by decide +kernel
theorem dX5_change_5 : decode cX5_change 5 = .ok (.istore_n 3, 1) := by decide +kernel
theorem dX5_change_6 : decode cX5_change 6 = .ok (.aload_n 0, 1) := by decide +kernel
theorem dX5_change_7 : decode cX5_change 7 = .ok (.getfield 34, 3) := by decide +kernel
theorem dX5_change_10 : decode cX5_change 10 = .ok (.bipush 6, 2) := by decide +kernel
theorem dX5_change_12 : decode cX5_change 12 = .ok (.iload_n 1, 1) := by decide +kernel
theorem dX5_change_13 : decode cX5_change 13 = .ok (.iadd, 1) := by decide +kernel
theorem dX5_change_14 : decode cX5_change 14 = .ok (.iload_n 2, 1) := by decide +kernel
theorem dX5_change_15 : decode cX5_change 15 = .ok (.iastore, 1) := by decide +kernel
theorem dX5_change_16 : decode cX5_change 16 = .ok (.aload_n 0, 1) := by decide +kernel
theorem dX5_change_17 : decode cX5_change 17 = .ok (.getfield 34, 3) := by decide +kernel
theorem dX5_change_20 : decode cX5_change 20 = .ok (.bipush 30, 2) := by decide +kernel
theorem dX5_change_22 : decode cX5_change 22 = .ok (.iload_n 1, 1) := by decide +kernel
theorem dX5_change_23 : decode cX5_change 23 = .ok (.iadd, 1) := by decide +kernel
theorem dX5_change_24 : decode cX5_change 24 = .ok (.aload_n 0, 1) := by decide +kernel
theorem dX5_change_25 : decode cX5_change 25 = .ok (.getfield 34, 3) := by decide +kernel
theorem dX5_change_28 : decode cX5_change 28 = .ok (.iconst 0, 1) := by decide +kernel
theorem dX5_change_29 : decode cX5_change 29 = .ok (.iaload, 1) := by decide +kernel
theorem dX5_change_30 : decode cX5_change 30 = .ok (.iastore, 1) := by decide +kernel
theorem dX5_change_31 : decode cX5_change 31 = .ok (.aload_n 0, 1) := by decide +kernel
theorem dX5_change_32 : decode cX5_change 32 = .ok (.getfield 34, 3) := by decide +kernel
theorem dX5_change_35 : decode cX5_change 35 = .ok (.bipush 54, 2) := by decide +kernel
theorem dX5_change_37 : decode cX5_change 37 = .ok (.iload_n 1, 1) := by decide +kernel
theorem dX5_change_38 : decode cX5_change 38 = .ok (.iadd, 1) := by decide +kernel
theorem dX5_change_39 : decode cX5_change 39 = .ok (.dup2, 1) := by decide +kernel
theorem dX5_change_40 : decode cX5_change 40 = .ok (.iaload, 1) := by decide +kernel
theorem dX5_change_41 : decode cX5_change 41 = .ok (.iconst 1, 1) := by decide +kernel
theorem dX5_change_42 : decode cX5_change 42 = .ok (.iadd, 1) := by decide +kernel
theorem dX5_change_43 : decode cX5_change 43 = .ok (.iastore, 1) := by decide +kernel
theorem dX5_change_44 : decode cX5_change 44 = .ok (.aload_n 0, 1) := by decide +kernel
theorem dX5_change_45 : decode cX5_change 45 = .ok (.getfield 34, 3) := by decide +kernel
theorem dX5_change_48 : decode cX5_change 48 = .ok (.iconst 3, 1) := by decide +kernel
theorem dX5_change_49 : decode cX5_change 49 = .ok (.dup2, 1) := by decide +kernel
theorem dX5_change_50 : decode cX5_change 50 = .ok (.iaload, 1) := by decide +kernel
theorem dX5_change_51 : decode cX5_change 51 = .ok (.iconst 1, 1) := by decide +kernel
theorem dX5_change_52 : decode cX5_change 52 = .ok (.iadd, 1) := by decide +kernel
theorem dX5_change_53 : decode cX5_change 53 = .ok (.iastore, 1) := by decide +kernel
theorem dX5_change_54 : decode cX5_change 54 = .ok (.iconst 0, 1) := by decide +kernel
theorem dX5_change_55 : decode cX5_change 55 = .ok (.istore 4, 2) := by decide +kernel
theorem dX5_change_57 : decode cX5_change 57 = .ok (.iload 4, 2) := by decide +kernel
theorem dX5_change_59 : decode cX5_change 59 = .ok (.aload_n 0, 1) := by decide +kernel
theorem dX5_change_60 : decode cX5_change 60 = .ok (.getfield 58, 3) := by decide +kernel
theorem dX5_change_63 : decode cX5_change 63 = .ok (.if_icmp .ge 48, 3) := by decide +kernel
theorem dX5_change_66 : decode cX5_change 66 = .ok (.aload_n 0, 1) := by decide +kernel
theorem dX5_change_67 : decode cX5_change 67 = .ok (.iload 4, 2) := by decide +kernel
theorem dX5_change_69 : decode cX5_change 69 = .ok (.iload_n 1, 1) := by decide +kernel
theorem dX5_change_70 : decode cX5_change 70 = .ok (.invokevirtual 93, 3) := by decide +kernel
theorem dX5_change_73 : decode cX5_change 73 = .ok (.ifCond .ne 6, 3) := by decide +kernel
theorem dX5_change_76 : decode cX5_change 76 = .ok (.goto 29, 3) := by decide +kernel
theorem dX5_change_79 : decode cX5_change 79 = .ok (.aload_n 0, 1) := by decide +kernel
theorem dX5_change_80 : decode cX5_change 80 = .ok (.iload 4, 2) := by decide +kernel
theorem dX5_change_82 : decode cX5_change 82 = .ok (.invokevirtual 86, 3) := by decide +kernel
theorem dX5_change_85 : decode cX5_change 85 = .ok (.ifCond .eq 12, 3) := by decide +kernel
theorem dX5_change_88 : decode cX5_change 88 = .ok (.aload_n 0, 1) := by decide +kernel
theorem dX5_change_89 : decode cX5_change 89 = .ok (.iload 4, 2) := by decide +kernel
theorem dX5_change_91 : decode cX5_change 91 = .ok (.invokevirtual 150, 3) := by decide +kernel
theorem dX5_change_94 : decode cX5_change 94 = .ok (.goto 11, 3) := by decide +kernel
theorem dX5_change_97 : decode cX5_change 97 = .ok (.aload_n 0, 1) := by decide +kernel
theorem dX5_change_98 : decode cX5_change 98 = .ok (.iload 4, 2) := by decide +kernel
theorem dX5_change_100 : decode cX5_change 100 = .ok (.iload_n 1, 1) := by decide +kernel
theorem dX5_change_101 : decode cX5_change 101 = .ok (.iload_n 3, 1) := by decide +kernel
theorem dX5_change_102 : decode cX5_change 102 = .ok (.invokevirtual 154, 3) := by decide +kernel
theorem dX5_change_105 : decode cX5_change 105 = .ok (.iinc 4 1, 3) := by decide +kernel
theorem dX5_change_108 : decode cX5_change 108 = .ok (.goto (-51), 3) := by decide +kernel
theorem dX5_change_111 : decode cX5_change 111 = .ok (.return_, 1) := by decide +kernel
theorem dX5_pend_0 : decode cX5_pend 0 = .ok (.aload_n 0, 1) := by decide +kernel
theorem dX5_pend_1 : decode cX5_pend 1 = .ok (.getfield 34, 3) := by decide +kernel
theorem dX5_pend_4 : decode cX5_pend 4 = .ok (.bipush 102, 2) := by decide +kernel
theorem dX5_pend_6 : decode cX5_pend 6 = .ok (.iload_n 1, 1) := by decide +kernel
theorem dX5_pend_7 : decode cX5_pend 7 = .ok (.iadd, 1) := by decide +kernel
theorem dX5_pend_8 : decode cX5_pend 8 = .ok (.iload_n 2, 1) := by decide +kernel
theorem dX5_pend_9 : decode cX5_pend 9 = .ok (.iastore, 1) := by decide +kernel
theorem dX5_pend_10 : decode cX5_pend 10 = .ok (.aload_n 0, 1) := by decide +kernel
theorem dX5_pend_11 : decode cX5_pend 11 = .ok (.getfield 34, 3) := by decide +kernel
theorem dX5_pend_14 : decode cX5_pend 14 = .ok (.sipush 132, 3) := by decide +kernel
theorem dX5_pend_17 : decode cX5_pend 17 = .ok (.iload_n 1, 1) := by decide +kernel
theorem dX5_pend_18 : decode cX5_pend 18 = .ok (.iadd, 1) := by decide +kernel
theorem dX5_pend_19 : decode cX5_pend 19 = .ok (.aload_n 0, 1) := by decide +kernel
theorem dX5_pend_20 : decode cX5_pend 20 = .ok (.getfield 34, 3) := by decide +kernel
theorem dX5_pend_23 : decode cX5_pend 23 = .ok (.iconst 0, 1) := by decide +kernel
theorem dX5_pend_24 : decode cX5_pend 24 = .ok (.iaload, 1) := by decide +kernel
theorem dX5_pend_25 : decode cX5_pend 25 = .ok (.aload_n 0, 1) := by decide +kernel
theorem dX5_pend_26 : decode cX5_pend 26 = .ok (.getfield 25, 3) := by decide +kernel
theorem dX5_pend_29 : decode cX5_pend 29 = .ok (.iload_n 1, 1) := by decide +kernel
theorem dX5_pend_30 : decode cX5_pend 30 = .ok (.iaload, 1) := by decide +kernel
theorem dX5_pend_31 : decode cX5_pend 31 = .ok (.iadd, 1) := by decide +kernel
theorem dX5_pend_32 : decode cX5_pend 32 = .ok (.iastore, 1) := by decide +kernel
theorem dX5_pend_33 : decode cX5_pend 33 = .ok (.aload_n 0, 1) := by decide +kernel
theorem dX5_pend_34 : decode cX5_pend 34 = .ok (.getfield 34, 3) := by decide +kernel
theorem dX5_pend_37 : decode cX5_pend 37 = .ok (.sipush 162, 3) := by decide +kernel
theorem dX5_pend_40 : decode cX5_pend 40 = .ok (.iload_n 1, 1) := by decide +kernel
theorem dX5_pend_41 : decode cX5_pend 41 = .ok (.iadd, 1) := by decide +kernel
theorem dX5_pend_42 : decode cX5_pend 42 = .ok (.aload_n 0, 1) := by decide +kernel
theorem dX5_pend_43 : decode cX5_pend 43 = .ok (.getfield 34, 3) := by decide +kernel
theorem dX5_pend_46 : decode cX5_pend 46 = .ok (.iconst 4, 1) := by decide +kernel
theorem dX5_pend_47 : decode cX5_pend 47 = .ok (.dup2, 1) := by decide +kernel
theorem dX5_pend_48 : decode cX5_pend 48 = .ok (.iaload, 1) := by decide +kernel
theorem dX5_pend_49 : decode cX5_pend 49 = .ok (.dup_x2, 1) := by decide +kernel
theorem dX5_pend_50 : decode cX5_pend 50 = .ok (.iconst 1, 1) := by decide +kernel
theorem dX5_pend_51 : decode cX5_pend 51 = .ok (.iadd, 1) := by decide +kernel
theorem dX5_pend_52 : decode cX5_pend 52 = .ok (.iastore, 1) := by decide +kernel
theorem dX5_pend_53 : decode cX5_pend 53 = .ok (.iastore, 1) := by decide +kernel
theorem dX5_pend_54 : decode cX5_pend 54 = .ok (.return_, 1) := by decide +kernel
theorem dX5_askGate_0 : decode cX5_askGate 0 = .ok (.aload_n 0, 1) := by decide +kernel
theorem dX5_askGate_1 : decode cX5_askGate 1 = .ok (.iload_n 1, 1) := by decide +kernel
theorem dX5_askGate_2 : decode cX5_askGate 2 = .ok (.invokevirtual 158, 3) := by decide +kernel
theorem dX5_askGate_5 : decode cX5_askGate 5 = .ok (.istore_n 2, 1) := by decide +kernel
theorem dX5_askGate_6 : decode cX5_askGate 6 = .ok (.aload_n 0, 1) := by decide +kernel
theorem dX5_askGate_7 : decode cX5_askGate 7 = .ok (.getfield 34, 3) := by decide +kernel
theorem dX5_askGate_10 : decode cX5_askGate 10 = .ok (.bipush 102, 2) := by decide +kernel
theorem dX5_askGate_12 : decode cX5_askGate 12 = .ok (.iload_n 1, 1) := by decide +kernel
theorem dX5_askGate_13 : decode cX5_askGate 13 = .ok (.iadd, 1) := by decide +kernel
theorem dX5_askGate_14 : decode cX5_askGate 14 = .ok (.iaload, 1) := by decide +kernel
theorem dX5_askGate_15 : decode cX5_askGate 15 = .ok (.iconst (-1), 1) := by decide +kernel
theorem dX5_askGate_16 : decode cX5_askGate 16 = .ok (.if_icmp .eq 36, 3) := by decide +kernel
theorem dX5_askGate_19 : decode cX5_askGate 19 = .ok (.aload_n 0, 1) := by decide +kernel
theorem dX5_askGate_20 : decode cX5_askGate 20 = .ok (.getfield 34, 3) := by decide +kernel
theorem dX5_askGate_23 : decode cX5_askGate 23 = .ok (.bipush 102, 2) := by decide +kernel
theorem dX5_askGate_25 : decode cX5_askGate 25 = .ok (.iload_n 1, 1) := by decide +kernel
theorem dX5_askGate_26 : decode cX5_askGate 26 = .ok (.iadd, 1) := by decide +kernel
theorem dX5_askGate_27 : decode cX5_askGate 27 = .ok (.iaload, 1) := by decide +kernel
theorem dX5_askGate_28 : decode cX5_askGate 28 = .ok (.iload_n 2, 1) := by decide +kernel
theorem dX5_askGate_29 : decode cX5_askGate 29 = .ok (.if_icmp .eq 23, 3) := by decide +kernel
theorem dX5_askGate_32 : decode cX5_askGate 32 = .ok (.aload_n 0, 1) := by decide +kernel
theorem dX5_askGate_33 : decode cX5_askGate 33 = .ok (.getfield 34, 3) := by decide +kernel
theorem dX5_askGate_36 : decode cX5_askGate 36 = .ok (.bipush 102, 2) := by decide +kernel
theorem dX5_askGate_38 : decode cX5_askGate 38 = .ok (.iload_n 1, 1) := by decide +kernel
theorem dX5_askGate_39 : decode cX5_askGate 39 = .ok (.iadd, 1) := by decide +kernel
theorem dX5_askGate_40 : decode cX5_askGate 40 = .ok (.iconst (-1), 1) := by decide +kernel
theorem dX5_askGate_41 : decode cX5_askGate 41 = .ok (.iastore, 1) := by decide +kernel
theorem dX5_askGate_42 : decode cX5_askGate 42 = .ok (.aload_n 0, 1) := by decide +kernel
theorem dX5_askGate_43 : decode cX5_askGate 43 = .ok (.getfield 34, 3) := by decide +kernel
theorem dX5_askGate_46 : decode cX5_askGate 46 = .ok (.iconst 1, 1) := by decide +kernel
theorem dX5_askGate_47 : decode cX5_askGate 47 = .ok (.dup2, 1) := by decide +kernel
theorem dX5_askGate_48 : decode cX5_askGate 48 = .ok (.iaload, 1) := by decide +kernel
theorem dX5_askGate_49 : decode cX5_askGate 49 = .ok (.iconst 1, 1) := by decide +kernel
theorem dX5_askGate_50 : decode cX5_askGate 50 = .ok (.iadd, 1) := by decide +kernel
theorem dX5_askGate_51 : decode cX5_askGate 51 = .ok (.iastore, 1) := by decide +kernel
theorem dX5_askGate_52 : decode cX5_askGate 52 = .ok (.aload_n 0, 1) := by decide +kernel
theorem dX5_askGate_53 : decode cX5_askGate 53 = .ok (.getfield 34, 3) := by decide +kernel
theorem dX5_askGate_56 : decode cX5_askGate 56 = .ok (.bipush 102, 2) := by decide +kernel
theorem dX5_askGate_58 : decode cX5_askGate 58 = .ok (.iload_n 1, 1) := by decide +kernel
theorem dX5_askGate_59 : decode cX5_askGate 59 = .ok (.iadd, 1) := by decide +kernel
theorem dX5_askGate_60 : decode cX5_askGate 60 = .ok (.iaload, 1) := by decide +kernel
theorem dX5_askGate_61 : decode cX5_askGate 61 = .ok (.iconst (-1), 1) := by decide +kernel
theorem dX5_askGate_62 : decode cX5_askGate 62 = .ok (.if_icmp .ne 23, 3) := by decide +kernel
theorem dX5_askGate_65 : decode cX5_askGate 65 = .ok (.iload_n 2, 1) := by decide +kernel
theorem dX5_askGate_66 : decode cX5_askGate 66 = .ok (.aload_n 0, 1) := by decide +kernel
theorem dX5_askGate_67 : decode cX5_askGate 67 = .ok (.aload_n 0, 1) := by decide +kernel
theorem dX5_askGate_68 : decode cX5_askGate 68 = .ok (.getfield 13, 3) := by decide +kernel
theorem dX5_askGate_71 : decode cX5_askGate 71 = .ok (.iload_n 1, 1) := by decide +kernel
theorem dX5_askGate_72 : decode cX5_askGate 72 = .ok (.iaload, 1) := by decide +kernel
theorem dX5_askGate_73 : decode cX5_askGate 73 = .ok (.invokevirtual 141, 3) := by decide +kernel
theorem dX5_askGate_76 : decode cX5_askGate 76 = .ok (.if_icmp .eq 9, 3) := by decide +kernel
theorem dX5_askGate_79 : decode cX5_askGate 79 = .ok (.aload_n 0, 1) := by decide +kernel
theorem dX5_askGate_80 : decode cX5_askGate 80 = .ok (.iload_n 1, 1) := by decide +kernel
theorem dX5_askGate_81 : decode cX5_askGate 81 = .ok (.iload_n 2, 1) := by decide +kernel
theorem dX5_askGate_82 : decode cX5_askGate 82 = .ok (.invokevirtual 161, 3) := by decide +kernel
theorem dX5_askGate_85 : decode cX5_askGate 85 = .ok (.return_, 1) := by decide +kernel
theorem dX5_askRegister_0 : decode cX5_askRegister 0 = .ok (.aload_n 0, 1) := by decide +kernel
theorem dX5_askRegister_1 : decode cX5_askRegister 1 = .ok (.getfield 22, 3) := by decide +kernel
theorem dX5_askRegister_4 : decode cX5_askRegister 4 = .ok (.iload_n 1, 1) := by decide +kernel
theorem dX5_askRegister_5 : decode cX5_askRegister 5 = .ok (.iaload, 1) := by decide +kernel
theorem dX5_askRegister_6 : decode cX5_askRegister 6 = .ok (.iload_n 2, 1) := by decide +kernel
theorem dX5_askRegister_7 : decode cX5_askRegister 7 = .ok (.if_icmp .ne 18, 3) := by decide +kernel
theorem dX5_askRegister_10 : decode cX5_askRegister 10 = .ok (.aload_n 0, 1) := by decide +kernel
theorem dX5_askRegister_11 : decode cX5_askRegister 11 = .ok (.iload_n 2, 1) := by decide +kernel
theorem dX5_askRegister_12 : decode cX5_askRegister 12 = .ok (.invokevirtual 141, 3) := by decide +kernel
theorem dX5_askRegister_15 : decode cX5_askRegister 15 = .ok (.iconst 1, 1) := by decide +kernel
theorem dX5_askRegister_16 : decode cX5_askRegister 16 = .ok (.if_icmp .ne 9, 3) := by decide +kernel
theorem dX5_askRegister_19 : decode cX5_askRegister 19 = .ok (.aload_n 0, 1) := by decide +kernel
theorem dX5_askRegister_20 : decode cX5_askRegister 20 = .ok (.iload_n 1, 1) := by decide +kernel
theorem dX5_askRegister_21 : decode cX5_askRegister 21 = .ok (.iconst 0, 1) := by decide +kernel
theorem dX5_askRegister_22 : decode cX5_askRegister 22 = .ok (.invokevirtual 161, 3) := by decide +kernel
theorem dX5_askRegister_25 : decode cX5_askRegister 25 = .ok (.aload_n 0, 1) := by decide +kernel
theorem dX5_askRegister_26 : decode cX5_askRegister 26 = .ok (.getfield 19, 3) := by decide +kernel
theorem dX5_askRegister_29 : decode cX5_askRegister 29 = .ok (.iload_n 1, 1) := by decide +kernel
theorem dX5_askRegister_30 : decode cX5_askRegister 30 = .ok (.iaload, 1) := by decide +kernel
theorem dX5_askRegister_31 : decode cX5_askRegister 31 = .ok (.iload_n 2, 1) := by decide +kernel
theorem dX5_askRegister_32 : decode cX5_askRegister 32 = .ok (.if_icmp .ne 136, 3) := by decide +kernel
theorem dX5_askRegister_35 : decode cX5_askRegister 35 = .ok (.iload_n 3, 1) := by decide +kernel
theorem dX5_askRegister_36 : decode cX5_askRegister 36 = .ok (.ifCond .ne 132, 3) := by decide +kernel
theorem dX5_askRegister_39 : decode cX5_askRegister 39 = .ok (.aload_n 0, 1) := by decide +kernel
theorem dX5_askRegister_40 : decode cX5_askRegister 40 = .ok (.iload_n 2, 1) := by decide +kernel
theorem dX5_askRegister_41 : decode cX5_askRegister 41 = .ok (.invokevirtual 141, 3) := by decide +kernel
theorem dX5_askRegister_44 : decode cX5_askRegister 44 = .ok (.iconst 1, 1) := by decide +kernel
theorem dX5_askRegister_45 : decode cX5_askRegister 45 = .ok (.if_icmp .ne 123, 3) := by decide +kernel
theorem dX5_askRegister_48 : decode cX5_askRegister 48 = .ok (.aload_n 0, 1) := by decide +kernel
theorem dX5_askRegister_49 : decode cX5_askRegister 49 = .ok (.getfield 22, 3) := by decide +kernel
theorem dX5_askRegister_52 : decode cX5_askRegister 52 = .ok (.iload_n 1, 1) := by decide +kernel
theorem dX5_askRegister_53 : decode cX5_askRegister 53 = .ok (.iaload, 1) := by decide +kernel
theorem dX5_askRegister_54 : decode cX5_askRegister 54 = .ok (.iconst (-1), 1) := by decide +kernel
theorem dX5_askRegister_55 : decode cX5_askRegister 55 = .ok (.if_icmp .eq 16, 3) := by decide +kernel
theorem dX5_askRegister_58 : decode cX5_askRegister 58 = .ok (.aload_n 0, 1) := by decide +kernel
theorem dX5_askRegister_59 : decode cX5_askRegister 59 = .ok (.aload_n 0, 1) := by decide +kernel
theorem dX5_askRegister_60 : decode cX5_askRegister 60 = .ok (.getfield 22, 3) := by decide +kernel
theorem dX5_askRegister_63 : decode cX5_askRegister 63 = .ok (.iload_n 1, 1) := by decide +kernel
theorem dX5_askRegister_64 : decode cX5_askRegister 64 = .ok (.iaload, 1) := by decide +kernel
theorem dX5_askRegister_65 : decode cX5_askRegister 65 = .ok (.invokevirtual 141, 3) := by decide +kernel
theorem dX5_askRegister_68 : decode cX5_askRegister 68 = .ok (.ifCond .ne 100, 3) := by decide +kernel
theorem dX5_askRegister_71 : decode cX5_askRegister 71 = .ok (.aload_n 0, 1) := by decide +kernel
theorem dX5_askRegister_72 : decode cX5_askRegister 72 = .ok (.aload_n 0, 1) := by decide +kernel
theorem dX5_askRegister_73 : decode cX5_askRegister 73 = .ok (.getfield 16, 3) := by decide +kernel
theorem dX5_askRegister_76 : decode cX5_askRegister 76 = .ok (.iload_n 1, 1) := by decide +kernel
theorem dX5_askRegister_77 : decode cX5_askRegister 77 = .ok (.iaload, 1) := by decide +kernel
theorem dX5_askRegister_78 : decode cX5_askRegister 78 = .ok (.invokevirtual 141, 3) := by decide +kernel
theorem dX5_askRegister_81 : decode cX5_askRegister 81 = .ok (.istore 4, 2) := by decide +kernel
theorem dX5_askRegister_83 : decode cX5_askRegister 83 = .ok (.aload_n 0, 1) := by decide +kernel
theorem dX5_askRegister_84 : decode cX5_askRegister 84 = .ok (.getfield 34, 3) := by decide +kernel
theorem dX5_askRegister_87 : decode cX5_askRegister 87 = .ok (.bipush 30, 2) := by decide +kernel
theorem dX5_askRegister_89 : decode cX5_askRegister 89 = .ok (.aload_n 0, 1) := by decide +kernel
theorem dX5_askRegister_90 : decode cX5_askRegister 90 = .ok (.getfield 16, 3) := by decide +kernel
theorem dX5_askRegister_93 : decode cX5_askRegister 93 = .ok (.iload_n 1, 1) := by decide +kernel
theorem dX5_askRegister_94 : decode cX5_askRegister 94 = .ok (.iaload, 1) := by decide +kernel
theorem dX5_askRegister_95 : decode cX5_askRegister 95 = .ok (.iadd, 1) := by decide +kernel
theorem dX5_askRegister_96 : decode cX5_askRegister 96 = .ok (.iaload, 1) := by decide +kernel
theorem dX5_askRegister_97 : decode cX5_askRegister 97 = .ok (.iconst (-1), 1) := by decide +kernel
theorem dX5_askRegister_98 : decode cX5_askRegister 98 = .ok (.if_icmp .eq 47, 3) := by decide +kernel
theorem dX5_askRegister_101 : decode cX5_askRegister 101 = .ok (.aload_n 0, 1) := by decide +kernel
theorem dX5_askRegister_102 : decode cX5_askRegister 102 = .ok (.getfield 34, 3) := by decide +kernel
theorem dX5_askRegister_105 : decode cX5_askRegister 105 = .ok (.bipush 30, 2) := by decide +kernel
theorem dX5_askRegister_107 : decode cX5_askRegister 107 = .ok (.aload_n 0, 1) := by decide +kernel
theorem dX5_askRegister_108 : decode cX5_askRegister 108 = .ok (.getfield 16, 3) := by decide +kernel
theorem dX5_askRegister_111 : decode cX5_askRegister 111 = .ok (.iload_n 1, 1) := by decide +kernel
theorem dX5_askRegister_112 : decode cX5_askRegister 112 = .ok (.iaload, 1) := by decide +kernel
theorem dX5_askRegister_113 : decode cX5_askRegister 113 = .ok (.iadd, 1) := by decide +kernel
theorem dX5_askRegister_114 : decode cX5_askRegister 114 = .ok (.iaload, 1) := by decide +kernel
theorem dX5_askRegister_115 : decode cX5_askRegister 115 = .ok (.aload_n 0, 1) := by decide +kernel
theorem dX5_askRegister_116 : decode cX5_askRegister 116 = .ok (.getfield 34, 3) := by decide +kernel
theorem dX5_askRegister_119 : decode cX5_askRegister 119 = .ok (.iconst 0, 1) := by decide +kernel
theorem dX5_askRegister_120 : decode cX5_askRegister 120 = .ok (.iaload, 1) := by decide +kernel
theorem dX5_askRegister_121 : decode cX5_askRegister 121 = .ok (.aload_n 0, 1) := by decide +kernel
theorem dX5_askRegister_122 : decode cX5_askRegister 122 = .ok (.getfield 28, 3) := by decide +kernel
theorem dX5_askRegister_125 : decode cX5_askRegister 125 = .ok (.iload_n 1, 1) := by decide +kernel
theorem dX5_askRegister_126 : decode cX5_askRegister 126 = .ok (.iaload, 1) := by decide +kernel
theorem dX5_askRegister_127 : decode cX5_askRegister 127 = .ok (.isub, 1) := by decide +kernel
theorem dX5_askRegister_128 : decode cX5_askRegister 128 = .ok (.if_icmp .le 17, 3) := by decide +kernel
theorem dX5_askRegister_131 : decode cX5_askRegister 131 = .ok (.aload_n 0, 1) := by decide +kernel
theorem dX5_askRegister_132 : decode cX5_askRegister 132 = .ok (.iconst 3, 1) := by decide +kernel
theorem dX5_askRegister_133 : decode cX5_askRegister 133 = .ok (.aload_n 0, 1) := by decide +kernel
theorem dX5_askRegister_134 : decode cX5_askRegister 134 = .ok (.getfield 13, 3) := by decide +kernel
theorem dX5_askRegister_137 : decode cX5_askRegister 137 = .ok (.iload_n 1, 1) := by decide +kernel
theorem dX5_askRegister_138 : decode cX5_askRegister 138 = .ok (.iaload, 1) := by decide +kernel
theorem dX5_askRegister_139 : decode cX5_askRegister 139 = .ok (.invokevirtual 164, 3) := by decide +kernel
theorem dX5_askRegister_142 : decode cX5_askRegister 142 = .ok (.iconst 2, 1) := by decide +kernel
theorem dX5_askRegister_143 : decode cX5_askRegister 143 = .ok (.istore 4, 2) := by decide +kernel
theorem dX5_askRegister_145 : decode cX5_askRegister 145 = .ok (.aload_n 0, 1) := by decide +kernel
theorem dX5_askRegister_146 : decode cX5_askRegister 146 = .ok (.getfield 34, 3) := by decide +kernel
theorem dX5_askRegister_149 : decode cX5_askRegister 149 = .ok (.sipush 192, 3) := by decide +kernel
theorem dX5_askRegister_152 : decode cX5_askRegister 152 = .ok (.iload_n 1, 1) := by decide +kernel
theorem dX5_askRegister_153 : decode cX5_askRegister 153 = .ok (.iadd, 1) := by decide +kernel
theorem dX5_askRegister_154 : decode cX5_askRegister 154 = .ok (.aload_n 0, 1) := by decide +kernel
theorem dX5_askRegister_155 : decode cX5_askRegister 155 = .ok (.getfield 34, 3) := by decide +kernel
theorem dX5_askRegister_158 : decode cX5_askRegister 158 = .ok (.iconst 0, 1) := by decide +kernel
theorem dX5_askRegister_159 : decode cX5_askRegister 159 = .ok (.iaload, 1) := by decide +kernel
theorem dX5_askRegister_160 : decode cX5_askRegister 160 = .ok (.iastore, 1) := by decide +kernel
theorem dX5_askRegister_161 : decode cX5_askRegister 161 = .ok (.aload_n 0, 1) := by decide +kernel
theorem dX5_askRegister_162 : decode cX5_askRegister 162 = .ok (.iload_n 1, 1) := by decide +kernel
theorem dX5_askRegister_163 : decode cX5_askRegister 163 = .ok (.iload 4, 2) := by decide +kernel
theorem dX5_askRegister_165 : decode cX5_askRegister 165 = .ok (.invokevirtual 161, 3) := by decide +kernel
theorem dX5_askRegister_168 : decode cX5_askRegister 168 = .ok (.aload_n 0, 1) := by decide +kernel
theorem dX5_askRegister_169 : decode cX5_askRegister 169 = .ok (.getfield 16, 3) := by decide +kernel
theorem dX5_askRegister_172 : decode cX5_askRegister 172 = .ok (.iload_n 1, 1) := by decide +kernel
theorem dX5_askRegister_173 : decode cX5_askRegister 173 = .ok (.iaload, 1) := by decide +kernel
theorem dX5_askRegister_174 : decode cX5_askRegister 174 = .ok (.iload_n 2, 1) := by decide +kernel
theorem dX5_askRegister_175 : decode cX5_askRegister 175 = .ok (.if_icmp .ne 60, 3) := by decide +kernel
theorem dX5_askRegister_178 : decode cX5_askRegister 178 = .ok (.aload_n 0, 1) := by decide +kernel
theorem dX5_askRegister_179 : decode cX5_askRegister 179 = .ok (.getfield 34, 3) := by decide +kernel
theorem dX5_askRegister_182 : decode cX5_askRegister 182 = .ok (.sipush 192, 3) := by decide +kernel
theorem dX5_askRegister_185 : decode cX5_askRegister 185 = .ok (.iload_n 1, 1) := by decide +kernel
theorem dX5_askRegister_186 : decode cX5_askRegister 186 = .ok (.iadd, 1) := by decide +kernel
theorem dX5_askRegister_187 : decode cX5_askRegister 187 = .ok (.iaload, 1) := by decide +kernel
theorem dX5_askRegister_188 : decode cX5_askRegister 188 = .ok (.iconst (-1), 1) := by decide +kernel
theorem dX5_askRegister_189 : decode cX5_askRegister 189 = .ok (.if_icmp .eq 46, 3) := by decide +kernel
theorem dX5_askRegister_192 : decode cX5_askRegister 192 = .ok (.aload_n 0, 1) := by decide +kernel
theorem dX5_askRegister_193 : decode cX5_askRegister 193 = .ok (.getfield 34, 3) := by decide +kernel
theorem dX5_askRegister_196 : decode cX5_askRegister 196 = .ok (.sipush 192, 3) := by decide +kernel
theorem dX5_askRegister_199 : decode cX5_askRegister 199 = .ok (.iload_n 1, 1) := by decide +kernel
theorem dX5_askRegister_200 : decode cX5_askRegister 200 = .ok (.iadd, 1) := by decide +kernel
theorem dX5_askRegister_201 : decode cX5_askRegister 201 = .ok (.iaload, 1) := by decide +kernel
theorem dX5_askRegister_202 : decode cX5_askRegister 202 = .ok (.aload_n 0, 1) := by decide +kernel
theorem dX5_askRegister_203 : decode cX5_askRegister 203 = .ok (.getfield 34, 3) := by decide +kernel
theorem dX5_askRegister_206 : decode cX5_askRegister 206 = .ok (.iconst 0, 1) := by decide +kernel
theorem dX5_askRegister_207 : decode cX5_askRegister 207 = .ok (.iaload, 1) := by decide +kernel
theorem dX5_askRegister_208 : decode cX5_askRegister 208 = .ok (.aload_n 0, 1) := by decide +kernel
theorem dX5_askRegister_209 : decode cX5_askRegister 209 = .ok (.getfield 31, 3) := by decide +kernel
theorem dX5_askRegister_212 : decode cX5_askRegister 212 = .ok (.iload_n 1, 1) := by decide +kernel
theorem dX5_askRegister_213 : decode cX5_askRegister 213 = .ok (.iaload, 1) := by decide +kernel
theorem dX5_askRegister_214 : decode cX5_askRegister 214 = .ok (.isub, 1) := by decide +kernel
theorem dX5_askRegister_215 : decode cX5_askRegister 215 = .ok (.if_icmp .le 20, 3) := by decide +kernel
theorem dX5_askRegister_218 : decode cX5_askRegister 218 = .ok (.aload_n 0, 1) := by decide +kernel
theorem dX5_askRegister_219 : decode cX5_askRegister 219 = .ok (.iconst 4, 1) := by decide +kernel
theorem dX5_askRegister_220 : decode cX5_askRegister 220 = .ok (.aload_n 0, 1) := by decide +kernel
theorem dX5_askRegister_221 : decode cX5_askRegister 221 = .ok (.getfield 13, 3) := by decide +kernel
theorem dX5_askRegister_224 : decode cX5_askRegister 224 = .ok (.iload_n 1, 1) := by decide +kernel
theorem dX5_askRegister_225 : decode cX5_askRegister 225 = .ok (.iaload, 1) := by decide +kernel
theorem dX5_askRegister_226 : decode cX5_askRegister 226 = .ok (.invokevirtual 164, 3) := by decide +kernel
theorem dX5_askRegister_229 : decode cX5_askRegister 229 = .ok (.aload_n 0, 1) := by decide +kernel
theorem dX5_askRegister_230 : decode cX5_askRegister 230 = .ok (.iload_n 1, 1) := by decide +kernel
theorem dX5_askRegister_231 : decode cX5_askRegister 231 = .ok (.iconst 2, 1) := by decide +kernel
theorem dX5_askRegister_232 : decode cX5_askRegister 232 = .ok (.invokevirtual 161, 3) := by decide +kernel
theorem dX5_askRegister_235 : decode cX5_askRegister 235 = .ok (.return_, 1) := by decide +kernel
theorem dX5_noteHazard_0 : decode cX5_noteHazard 0 = .ok (.aload_n 0, 1) := by decide +kernel
theorem dX5_noteHazard_1 : decode cX5_noteHazard 1 = .ok (.getfield 34, 3) := by decide +kernel
theorem dX5_noteHazard_4 : decode cX5_noteHazard 4 = .ok (.iconst 5, 1) := by decide +kernel
theorem dX5_noteHazard_5 : decode cX5_noteHazard 5 = .ok (.iaload, 1) := by decide +kernel
theorem dX5_noteHazard_6 : decode cX5_noteHazard 6 = .ok (.bipush 40, 2) := by decide +kernel
theorem dX5_noteHazard_8 : decode cX5_noteHazard 8 = .ok (.if_icmp .ne 4, 3) := by decide +kernel
theorem dX5_noteHazard_11 : decode cX5_noteHazard 11 = .ok (.return_, 1) := by decide +kernel
theorem dX5_noteHazard_12 : decode cX5_noteHazard 12 = .ok (.sipush 222, 3) := by decide +kernel
theorem dX5_noteHazard_15 : decode cX5_noteHazard 15 = .ok (.iconst 3, 1) := by decide +kernel
theorem dX5_noteHazard_16 : decode cX5_noteHazard 16 = .ok (.aload_n 0, 1) := by decide +kernel
theorem dX5_noteHazard_17 : decode cX5_noteHazard 17 = .ok (.getfield 34, 3) := by decide +kernel
theorem dX5_noteHazard_20 : decode cX5_noteHazard 20 = .ok (.iconst 5, 1) := by decide +kernel
theorem dX5_noteHazard_21 : decode cX5_noteHazard 21 = .ok (.dup2, 1) := by decide +kernel
theorem dX5_noteHazard_22 : decode cX5_noteHazard 22 = .ok (.iaload, 1) := by decide +kernel
theorem dX5_noteHazard_23 : decode cX5_noteHazard 23 = .ok (.dup_x2, 1) := by decide +kernel
theorem dX5_noteHazard_24 : decode cX5_noteHazard 24 = .ok (.iconst 1, 1) := by decide +kernel
theorem dX5_noteHazard_25 : decode cX5_noteHazard 25 = .ok (.iadd, 1) := by decide +kernel
theorem dX5_noteHazard_26 : decode cX5_noteHazard 26 = .ok (.iastore, 1) := by decide +kernel
theorem dX5_noteHazard_27 : decode cX5_noteHazard 27 = .ok (.imul, 1) := by decide +kernel
theorem dX5_noteHazard_28 : decode cX5_noteHazard 28 = .ok (.iadd, 1) := by decide +kernel
theorem dX5_noteHazard_29 : decode cX5_noteHazard 29 = .ok (.istore_n 3, 1) := by decide +kernel
theorem dX5_noteHazard_30 : decode cX5_noteHazard 30 = .ok (.aload_n 0, 1) := by decide +kernel
theorem dX5_noteHazard_31 : decode cX5_noteHazard 31 = .ok (.getfield 34, 3) := by decide +kernel
theorem dX5_noteHazard_34 : decode cX5_noteHazard 34 = .ok (.iload_n 3, 1) := by decide +kernel
theorem dX5_noteHazard_35 : decode cX5_noteHazard 35 = .ok (.iload_n 1, 1) := by decide +kernel
theorem dX5_noteHazard_36 : decode cX5_noteHazard 36 = .ok (.iastore, 1) := by decide +kernel
theorem dX5_noteHazard_37 : decode cX5_noteHazard 37 = .ok (.aload_n 0, 1) := by decide +kernel
theorem dX5_noteHazard_38 : decode cX5_noteHazard 38 = .ok (.getfield 34, 3) := by decide +kernel
theorem dX5_noteHazard_41 : decode cX5_noteHazard 41 = .ok (.iload_n 3, 1) := by decide +kernel
theorem dX5_noteHazard_42 : decode cX5_noteHazard 42 = .ok (.iconst 1, 1) := by decide +kernel
theorem dX5_noteHazard_43 : decode cX5_noteHazard 43 = .ok (.iadd, 1) := by decide +kernel
theorem dX5_noteHazard_44 : decode cX5_noteHazard 44 = .ok (.iload_n 2, 1) := by decide +kernel
theorem dX5_noteHazard_45 : decode cX5_noteHazard 45 = .ok (.iastore, 1) := by decide +kernel
theorem dX5_noteHazard_46 : decode cX5_noteHazard 46 = .ok (.aload_n 0, 1) := by decide +kernel
theorem dX5_noteHazard_47 : decode cX5_noteHazard 47 = .ok (.getfield 34, 3) := by decide +kernel
theorem dX5_noteHazard_50 : decode cX5_noteHazard 50 = .ok (.iload_n 3, 1) := by decide +kernel
theorem dX5_noteHazard_51 : decode cX5_noteHazard 51 = .ok (.iconst 2, 1) := by decide +kernel
theorem dX5_noteHazard_52 : decode cX5_noteHazard 52 = .ok (.iadd, 1) := by decide +kernel
theorem dX5_noteHazard_53 : decode cX5_noteHazard 53 = .ok (.aload_n 0, 1) := by decide +kernel
theorem dX5_noteHazard_54 : decode cX5_noteHazard 54 = .ok (.getfield 34, 3) := by decide +kernel
theorem dX5_noteHazard_57 : decode cX5_noteHazard 57 = .ok (.iconst 0, 1) := by decide +kernel
theorem dX5_noteHazard_58 : decode cX5_noteHazard 58 = .ok (.iaload, 1) := by decide +kernel
theorem dX5_noteHazard_59 : decode cX5_noteHazard 59 = .ok (.iastore, 1) := by decide +kernel
theorem dX5_noteHazard_60 : decode cX5_noteHazard 60 = .ok (.return_, 1) := by decide +kernel
theorem dX5_nextLine_0 : decode cX5_nextLine 0 = .ok (.iconst (-1), 1) := by decide +kernel
theorem dX5_nextLine_1 : decode cX5_nextLine 1 = .ok (.istore_n 1, 1) := by decide +kernel
theorem dX5_nextLine_2 : decode cX5_nextLine 2 = .ok (.iconst 0, 1) := by decide +kernel
theorem dX5_nextLine_3 : decode cX5_nextLine 3 = .ok (.istore_n 2, 1) := by decide +kernel
theorem dX5_nextLine_4 : decode cX5_nextLine 4 = .ok (.iload_n 2, 1) := by decide +kernel
theorem dX5_nextLine_5 : decode cX5_nextLine 5 = .ok (.aload_n 0, 1) := by decide +kernel
theorem dX5_nextLine_6 : decode cX5_nextLine 6 = .ok (.getfield 58, 3) := by decide +kernel
theorem dX5_nextLine_9 : decode cX5_nextLine 9 = .ok (.if_icmp .ge 101, 3) := by decide +kernel
theorem dX5_nextLine_12 : decode cX5_nextLine 12 = .ok (.aload_n 0, 1) := by decide +kernel
theorem dX5_nextLine_13 : decode cX5_nextLine 13 = .ok (.getfield 34, 3) := by decide +kernel
theorem dX5_nextLine_16 : decode cX5_nextLine 16 = .ok (.bipush 102, 2) := by decide +kernel
theorem dX5_nextLine_18 : decode cX5_nextLine 18 = .ok (.iload_n 2, 1) := by decide +kernel
theorem dX5_nextLine_19 : decode cX5_nextLine 19 = .ok (.iadd, 1) := by decide +kernel
theorem dX5_nextLine_20 : decode cX5_nextLine 20 = .ok (.iaload, 1) := by decide +kernel
theorem dX5_nextLine_21 : decode cX5_nextLine 21 = .ok (.iconst (-1), 1) := by decide +kernel
theorem dX5_nextLine_22 : decode cX5_nextLine 22 = .ok (.if_icmp .ne 6, 3) := by decide +kernel
theorem dX5_nextLine_25 : decode cX5_nextLine 25 = .ok (.goto 79, 3) := by decide +kernel
theorem dX5_nextLine_28 : decode cX5_nextLine 28 = .ok (.iload_n 1, 1) := by decide +kernel
theorem dX5_nextLine_29 : decode cX5_nextLine 29 = .ok (.iconst (-1), 1) := by decide +kernel
theorem dX5_nextLine_30 : decode cX5_nextLine 30 = .ok (.if_icmp .eq 72, 3) := by decide +kernel
theorem dX5_nextLine_33 : decode cX5_nextLine 33 = .ok (.aload_n 0, 1) := by decide +kernel
theorem dX5_nextLine_34 : decode cX5_nextLine 34 = .ok (.getfield 34, 3) := by decide +kernel
theorem dX5_nextLine_37 : decode cX5_nextLine 37 = .ok (.sipush 132, 3) := by decide +kernel
theorem dX5_nextLine_40 : decode cX5_nextLine 40 = .ok (.iload_n 2, 1) := by decide +kernel
theorem dX5_nextLine_41 : decode cX5_nextLine 41 = .ok (.iadd, 1) := by decide +kernel
theorem dX5_nextLine_42 : decode cX5_nextLine 42 = .ok (.iaload, 1) := by decide +kernel
theorem dX5_nextLine_43 : decode cX5_nextLine 43 = .ok (.aload_n 0, 1) := by decide +kernel
theorem dX5_nextLine_44 : decode cX5_nextLine 44 = .ok (.getfield 34, 3) := by decide +kernel
theorem dX5_nextLine_47 : decode cX5_nextLine 47 = .ok (.sipush 132, 3) := by decide +kernel
theorem dX5_nextLine_50 : decode cX5_nextLine 50 = .ok (.iload_n 1, 1) := by decide +kernel
theorem dX5_nextLine_51 : decode cX5_nextLine 51 = .ok (.iadd, 1) := by decide +kernel
theorem dX5_nextLine_52 : decode cX5_nextLine 52 = .ok (.iaload, 1) := by decide +kernel
theorem dX5_nextLine_53 : decode cX5_nextLine 53 = .ok (.if_icmp .lt 49, 3) := by decide +kernel
theorem dX5_nextLine_56 : decode cX5_nextLine 56 = .ok (.aload_n 0, 1) := by decide +kernel
theorem dX5_nextLine_57 : decode cX5_nextLine 57 = .ok (.getfield 34, 3) := by decide +kernel
theorem dX5_nextLine_60 : decode cX5_nextLine 60 = .ok (.sipush 132, 3) := by decide +kernel
theorem dX5_nextLine_63 : decode cX5_nextLine 63 = .ok (.iload_n 2, 1) := by decide +kernel
theorem dX5_nextLine_64 : decode cX5_nextLine 64 = .ok (.iadd, 1) := by decide +kernel
theorem dX5_nextLine_65 : decode cX5_nextLine 65 = .ok (.iaload, 1) := by decide +kernel
theorem dX5_nextLine_66 : decode cX5_nextLine 66 = .ok (.aload_n 0, 1) := by decide +kernel
theorem dX5_nextLine_67 : decode cX5_nextLine 67 = .ok (.getfield 34, 3) := by decide +kernel
theorem dX5_nextLine_70 : decode cX5_nextLine 70 = .ok (.sipush 132, 3) := by decide +kernel
theorem dX5_nextLine_73 : decode cX5_nextLine 73 = .ok (.iload_n 1, 1) := by decide +kernel
theorem dX5_nextLine_74 : decode cX5_nextLine 74 = .ok (.iadd, 1) := by decide +kernel
theorem dX5_nextLine_75 : decode cX5_nextLine 75 = .ok (.iaload, 1) := by decide +kernel
theorem dX5_nextLine_76 : decode cX5_nextLine 76 = .ok (.if_icmp .ne 28, 3) := by decide +kernel
theorem dX5_nextLine_79 : decode cX5_nextLine 79 = .ok (.aload_n 0, 1) := by decide +kernel
theorem dX5_nextLine_80 : decode cX5_nextLine 80 = .ok (.getfield 34, 3) := by decide +kernel
theorem dX5_nextLine_83 : decode cX5_nextLine 83 = .ok (.sipush 162, 3) := by decide +kernel
theorem dX5_nextLine_86 : decode cX5_nextLine 86 = .ok (.iload_n 2, 1) := by decide +kernel
theorem dX5_nextLine_87 : decode cX5_nextLine 87 = .ok (.iadd, 1) := by decide +kernel
theorem dX5_nextLine_88 : decode cX5_nextLine 88 = .ok (.iaload, 1) := by decide +kernel
theorem dX5_nextLine_89 : decode cX5_nextLine 89 = .ok (.aload_n 0, 1) := by decide +kernel
theorem dX5_nextLine_90 : decode cX5_nextLine 90 = .ok (.getfield 34, 3) := by decide +kernel
theorem dX5_nextLine_93 : decode cX5_nextLine 93 = .ok (.sipush 162, 3) := by decide +kernel
theorem dX5_nextLine_96 : decode cX5_nextLine 96 = .ok (.iload_n 1, 1) := by decide +kernel
theorem dX5_nextLine_97 : decode cX5_nextLine 97 = .ok (.iadd, 1) := by decide +kernel
theorem dX5_nextLine_98 : decode cX5_nextLine 98 = .ok (.iaload, 1) := by decide +kernel
theorem dX5_nextLine_99 : decode cX5_nextLine 99 = .ok (.if_icmp .ge 5, 3) := by decide +kernel
theorem dX5_nextLine_102 : decode cX5_nextLine 102 = .ok (.iload_n 2, 1) := by decide +kernel
theorem dX5_nextLine_103 : decode cX5_nextLine 103 = .ok (.istore_n 1, 1) := by decide +kernel
theorem dX5_nextLine_104 : decode cX5_nextLine 104 = .ok (.iinc 2 1, 3) := by decide +kernel
theorem dX5_nextLine_107 : decode cX5_nextLine 107 = .ok (.goto (-103), 3) := by decide +kernel
theorem dX5_nextLine_110 : decode cX5_nextLine 110 = .ok (.iload_n 1, 1) := by decide +kernel
theorem dX5_nextLine_111 : decode cX5_nextLine 111 = .ok (.ireturn, 1) := by decide +kernel
theorem dX5_passTo_0 : decode cX5_passTo 0 = .ok (.aload_n 0, 1) := by decide +kernel
theorem dX5_passTo_1 : decode cX5_passTo 1 = .ok (.getfield 34, 3) := by decide +kernel
theorem dX5_passTo_4 : decode cX5_passTo 4 = .ok (.iconst 3, 1) := by decide +kernel
theorem dX5_passTo_5 : decode cX5_passTo 5 = .ok (.iaload, 1) := by decide +kernel
theorem dX5_passTo_6 : decode cX5_passTo 6 = .ok (.istore_n 2, 1) := by decide +kernel
theorem dX5_passTo_7 : decode cX5_passTo 7 = .ok (.iconst 0, 1) := by decide +kernel
theorem dX5_passTo_8 : decode cX5_passTo 8 = .ok (.istore_n 3, 1) := by decide +kernel
theorem dX5_passTo_9 : decode cX5_passTo 9 = .ok (.aload_n 0, 1) := by decide +kernel
theorem dX5_passTo_10 : decode cX5_passTo 10 = .ok (.invokevirtual 167, 3) := by decide +kernel
theorem dX5_passTo_13 : decode cX5_passTo 13 = .ok (.istore 4, 2) := by decide +kernel
theorem dX5_passTo_15 : decode cX5_passTo 15 = .ok (.iload 4, 2) := by decide +kernel
theorem dX5_passTo_17 : decode cX5_passTo 17 = .ok (.iconst (-1), 1) := by decide +kernel
theorem dX5_passTo_18 : decode cX5_passTo 18 = .ok (.if_icmp .eq 148, 3) := by decide +kernel
theorem dX5_passTo_21 : decode cX5_passTo 21 = .ok (.aload_n 0, 1) := by decide +kernel
theorem dX5_passTo_22 : decode cX5_passTo 22 = .ok (.getfield 34, 3) := by decide +kernel
theorem dX5_passTo_25 : decode cX5_passTo 25 = .ok (.sipush 132, 3) := by decide +kernel
theorem dX5_passTo_28 : decode cX5_passTo 28 = .ok (.iload 4, 2) := by decide +kernel
theorem dX5_passTo_30 : decode cX5_passTo 30 = .ok (.iadd, 1) := by decide +kernel
theorem dX5_passTo_31 : decode cX5_passTo 31 = .ok (.iaload, 1) := by decide +kernel
theorem dX5_passTo_32 : decode cX5_passTo 32 = .ok (.iload_n 1, 1) := by decide +kernel
theorem dX5_passTo_33 : decode cX5_passTo 33 = .ok (.if_icmp .gt 133, 3) := by decide +kernel
theorem dX5_passTo_36 : decode cX5_passTo 36 = .ok (.iload_n 3, 1) := by decide +kernel
theorem dX5_passTo_37 : decode cX5_passTo 37 = .ok (.sipush 300, 3) := by decide +kernel
theorem dX5_passTo_40 : decode cX5_passTo 40 = .ok (.if_icmp .ne 45, 3) := by decide +kernel
theorem dX5_passTo_43 : decode cX5_passTo 43 = .ok (.aload_n 0, 1) := by decide +kernel
theorem dX5_passTo_44 : decode cX5_passTo 44 = .ok (.getfield 34, 3) := by decide +kernel
theorem dX5_passTo_47 : decode cX5_passTo 47 = .ok (.iconst 2, 1) := by decide +kernel
theorem dX5_passTo_48 : decode cX5_passTo 48 = .ok (.dup2, 1) := by decide +kernel
theorem dX5_passTo_49 : decode cX5_passTo 49 = .ok (.iaload, 1) := by decide +kernel
theorem dX5_passTo_50 : decode cX5_passTo 50 = .ok (.iconst 1, 1) := by decide +kernel
theorem dX5_passTo_51 : decode cX5_passTo 51 = .ok (.iadd, 1) := by decide +kernel
theorem dX5_passTo_52 : decode cX5_passTo 52 = .ok (.iastore, 1) := by decide +kernel
theorem dX5_passTo_53 : decode cX5_passTo 53 = .ok (.iconst 0, 1) := by decide +kernel
theorem dX5_passTo_54 : decode cX5_passTo 54 = .ok (.istore 5, 2) := by decide +kernel
theorem dX5_passTo_56 : decode cX5_passTo 56 = .ok (.iload 5, 2) := by decide +kernel
theorem dX5_passTo_58 : decode cX5_passTo 58 = .ok (.aload_n 0, 1) := by decide +kernel
theorem dX5_passTo_59 : decode cX5_passTo 59 = .ok (.getfield 58, 3) := by decide +kernel
theorem dX5_passTo_62 : decode cX5_passTo 62 = .ok (.if_icmp .ge 20, 3) := by decide +kernel
theorem dX5_passTo_65 : decode cX5_passTo 65 = .ok (.aload_n 0, 1) := by decide +kernel
theorem dX5_passTo_66 : decode cX5_passTo 66 = .ok (.getfield 34, 3) := by decide +kernel
theorem dX5_passTo_69 : decode cX5_passTo 69 = .ok (.bipush 102, 2) := by decide +kernel
theorem dX5_passTo_71 : decode cX5_passTo 71 = .ok (.iload 5, 2) := by decide +kernel
theorem dX5_passTo_73 : decode cX5_passTo 73 = .ok (.iadd, 1) := by decide +kernel
theorem dX5_passTo_74 : decode cX5_passTo 74 = .ok (.iconst (-1), 1) := by decide +kernel
theorem dX5_passTo_75 : decode cX5_passTo 75 = .ok (.iastore, 1) := by decide +kernel
theorem dX5_passTo_76 : decode cX5_passTo 76 = .ok (.iinc 5 1, 3) := by decide +kernel
theorem dX5_passTo_79 : decode cX5_passTo 79 = .ok (.goto (-23), 3) := by decide +kernel
theorem dX5_passTo_82 : decode cX5_passTo 82 = .ok (.goto 84, 3) := by decide +kernel
theorem dX5_passTo_85 : decode cX5_passTo 85 = .ok (.iinc 3 1, 3) := by decide +kernel
theorem dX5_passTo_88 : decode cX5_passTo 88 = .ok (.aload_n 0, 1) := by decide +kernel
theorem dX5_passTo_89 : decode cX5_passTo 89 = .ok (.getfield 34, 3) := by decide +kernel
theorem dX5_passTo_92 : decode cX5_passTo 92 = .ok (.bipush 102, 2) := by decide +kernel
theorem dX5_passTo_94 : decode cX5_passTo 94 = .ok (.iload 4, 2) := by decide +kernel
theorem dX5_passTo_96 : decode cX5_passTo 96 = .ok (.iadd, 1) := by decide +kernel
theorem dX5_passTo_97 : decode cX5_passTo 97 = .ok (.iaload, 1) := by decide +kernel
theorem dX5_passTo_98 : decode cX5_passTo 98 = .ok (.istore 5, 2) := by decide +kernel
theorem dX5_passTo_100 : decode cX5_passTo 100 = .ok (.aload_n 0, 1) := by decide +kernel
theorem dX5_passTo_101 : decode cX5_passTo 101 = .ok (.getfield 34, 3) := by decide +kernel
theorem dX5_passTo_104 : decode cX5_passTo 104 = .ok (.bipush 102, 2) := by decide +kernel
theorem dX5_passTo_106 : decode cX5_passTo 106 = .ok (.iload 4, 2) := by decide +kernel
theorem dX5_passTo_108 : decode cX5_passTo 108 = .ok (.iadd, 1) := by decide +kernel
theorem dX5_passTo_109 : decode cX5_passTo 109 = .ok (.iconst (-1), 1) := by decide +kernel
theorem dX5_passTo_110 : decode cX5_passTo 110 = .ok (.iastore, 1) := by decide +kernel
theorem dX5_passTo_111 : decode cX5_passTo 111 = .ok (.aload_n 0, 1) := by decide +kernel
theorem dX5_passTo_112 : decode cX5_passTo 112 = .ok (.getfield 34, 3) := by decide +kernel
theorem dX5_passTo_115 : decode cX5_passTo 115 = .ok (.iconst 0, 1) := by decide +kernel
theorem dX5_passTo_116 : decode cX5_passTo 116 = .ok (.aload_n 0, 1) := by decide +kernel
theorem dX5_passTo_117 : decode cX5_passTo 117 = .ok (.getfield 34, 3) := by decide +kernel
theorem dX5_passTo_120 : decode cX5_passTo 120 = .ok (.sipush 132, 3) := by decide +kernel
theorem dX5_passTo_123 : decode cX5_passTo 123 = .ok (.iload 4, 2) := by decide +kernel
theorem dX5_passTo_125 : decode cX5_passTo 125 = .ok (.iadd, 1) := by decide +kernel
theorem dX5_passTo_126 : decode cX5_passTo 126 = .ok (.iaload, 1) := by decide +kernel
theorem dX5_passTo_127 : decode cX5_passTo 127 = .ok (.iastore, 1) := by decide +kernel
theorem dX5_passTo_128 : decode cX5_passTo 128 = .ok (.aload_n 0, 1) := by decide +kernel
theorem dX5_passTo_129 : decode cX5_passTo 129 = .ok (.aload_n 0, 1) := by decide +kernel
theorem dX5_passTo_130 : decode cX5_passTo 130 = .ok (.getfield 13, 3) := by decide +kernel
theorem dX5_passTo_133 : decode cX5_passTo 133 = .ok (.iload 4, 2) := by decide +kernel
theorem dX5_passTo_135 : decode cX5_passTo 135 = .ok (.iaload, 1) := by decide +kernel
theorem dX5_passTo_136 : decode cX5_passTo 136 = .ok (.invokevirtual 141, 3) := by decide +kernel
theorem dX5_passTo_139 : decode cX5_passTo 139 = .ok (.iload 5, 2) := by decide +kernel
theorem dX5_passTo_141 : decode cX5_passTo 141 = .ok (.if_icmp .eq 16, 3) := by decide +kernel
theorem dX5_passTo_144 : decode cX5_passTo 144 = .ok (.aload_n 0, 1) := by decide +kernel
theorem dX5_passTo_145 : decode cX5_passTo 145 = .ok (.aload_n 0, 1) := by decide +kernel
theorem dX5_passTo_146 : decode cX5_passTo 146 = .ok (.getfield 13, 3) := by decide +kernel
theorem dX5_passTo_149 : decode cX5_passTo 149 = .ok (.iload 4, 2) := by decide +kernel
theorem dX5_passTo_151 : decode cX5_passTo 151 = .ok (.iaload, 1) := by decide +kernel
theorem dX5_passTo_152 : decode cX5_passTo 152 = .ok (.iload 5, 2) := by decide +kernel
theorem dX5_passTo_154 : decode cX5_passTo 154 = .ok (.invokevirtual 170, 3) := by decide +kernel
theorem dX5_passTo_157 : decode cX5_passTo 157 = .ok (.aload_n 0, 1) := by decide +kernel
theorem dX5_passTo_158 : decode cX5_passTo 158 = .ok (.invokevirtual 167, 3) := by decide +kernel
theorem dX5_passTo_161 : decode cX5_passTo 161 = .ok (.istore 4, 2) := by decide +kernel
theorem dX5_passTo_163 : decode cX5_passTo 163 = .ok (.goto (-148), 3) := by decide +kernel
theorem dX5_passTo_166 : decode cX5_passTo 166 = .ok (.aload_n 0, 1) := by decide +kernel
theorem dX5_passTo_167 : decode cX5_passTo 167 = .ok (.getfield 34, 3) := by decide +kernel
theorem dX5_passTo_170 : decode cX5_passTo 170 = .ok (.iconst 3, 1) := by decide +kernel
theorem dX5_passTo_171 : decode cX5_passTo 171 = .ok (.iaload, 1) := by decide +kernel
theorem dX5_passTo_172 : decode cX5_passTo 172 = .ok (.iload_n 2, 1) := by decide +kernel
theorem dX5_passTo_173 : decode cX5_passTo 173 = .ok (.isub, 1) := by decide +kernel
theorem dX5_passTo_174 : decode cX5_passTo 174 = .ok (.ireturn, 1) := by decide +kernel
theorem dX5_beginCounting_0 : decode cX5_beginCounting 0 = .ok (.iconst 0, 1) := by decide +kernel
theorem dX5_beginCounting_1 : decode cX5_beginCounting 1 = .ok (.istore_n 1, 1) := by decide +kernel
theorem dX5_beginCounting_2 : decode cX5_beginCounting 2 = .ok (.iload_n 1, 1) := by decide +kernel
theorem dX5_beginCounting_3 : decode cX5_beginCounting 3 = .ok (.bipush 24, 2) := by decide +kernel
theorem dX5_beginCounting_5 : decode cX5_beginCounting 5 = .ok (.if_icmp .ge 33, 3) := by decide +kernel
theorem dX5_beginCounting_8 : decode cX5_beginCounting 8 = .ok (.aload_n 0, 1) := by decide +kernel
theorem dX5_beginCounting_9 : decode cX5_beginCounting 9 = .ok (.getfield 34, 3) := by decide +kernel
theorem dX5_beginCounting_12 : decode cX5_beginCounting 12 = .ok (.bipush 54, 2) := by decide +kernel
theorem dX5_beginCounting_14 : decode cX5_beginCounting 14 = .ok (.iload_n 1, 1) := by decide +kernel
theorem dX5_beginCounting_15 : decode cX5_beginCounting 15 = .ok (.iadd, 1) := by decide +kernel
theorem dX5_beginCounting_16 : decode cX5_beginCounting 16 = .ok (.iconst 0, 1) := by decide +kernel
theorem dX5_beginCounting_17 : decode cX5_beginCounting 17 = .ok (.iastore, 1) := by decide +kernel
theorem dX5_beginCounting_18 : decode cX5_beginCounting 18 = .ok (.aload_n 0, 1) := by decide +kernel
theorem dX5_beginCounting_19 : decode cX5_beginCounting 19 = .ok (.getfield 34, 3) := by decide +kernel
theorem dX5_beginCounting_22 : decode cX5_beginCounting 22 = .ok (.bipush 78, 2) := by decide +kernel
theorem dX5_beginCounting_24 : decode cX5_beginCounting 24 = .ok (.iload_n 1, 1) := by decide +kernel
theorem dX5_beginCounting_25 : decode cX5_beginCounting 25 = .ok (.iadd, 1) := by decide +kernel
theorem dX5_beginCounting_26 : decode cX5_beginCounting 26 = .ok (.aload_n 0, 1) := by decide +kernel
theorem dX5_beginCounting_27 : decode cX5_beginCounting 27 = .ok (.iload_n 1, 1) := by decide +kernel
theorem dX5_beginCounting_28 : decode cX5_beginCounting 28 = .ok (.invokevirtual 141, 3) := by decide +kernel
theorem dX5_beginCounting_31 : decode cX5_beginCounting 31 = .ok (.iastore, 1) := by decide +kernel
theorem dX5_beginCounting_32 : decode cX5_beginCounting 32 = .ok (.iinc 1 1, 3) := by decide +kernel
theorem dX5_beginCounting_35 : decode cX5_beginCounting 35 = .ok (.goto (-33), 3) := by decide +kernel
theorem dX5_beginCounting_38 : decode cX5_beginCounting 38 = .ok (.return_, 1) := by decide +kernel
theorem dX5_settleNow_0 : decode cX5_settleNow 0 = .ok (.aload_n 0, 1) := by decide +kernel
theorem dX5_settleNow_1 : decode cX5_settleNow 1 = .ok (.ldc 175, 2) := by decide +kernel
theorem dX5_settleNow_3 : decode cX5_settleNow 3 = .ok (.invokevirtual 176, 3) := by decide +kernel
theorem dX5_settleNow_6 : decode cX5_settleNow 6 = .ok (.istore_n 1, 1) := by decide +kernel
theorem dX5_settleNow_7 : decode cX5_settleNow 7 = .ok (.iconst 0, 1) := by decide +kernel
theorem dX5_settleNow_8 : decode cX5_settleNow 8 = .ok (.istore_n 2, 1) := by decide +kernel
theorem dX5_settleNow_9 : decode cX5_settleNow 9 = .ok (.iload_n 2, 1) := by decide +kernel
theorem dX5_settleNow_10 : decode cX5_settleNow 10 = .ok (.bipush 24, 2) := by decide +kernel
theorem dX5_settleNow_12 : decode cX5_settleNow 12 = .ok (.if_icmp .ge 103, 3) := by decide +kernel
theorem dX5_settleNow_15 : decode cX5_settleNow 15 = .ok (.aload_n 0, 1) := by decide +kernel
theorem dX5_settleNow_16 : decode cX5_settleNow 16 = .ok (.getfield 34, 3) := by decide +kernel
theorem dX5_settleNow_19 : decode cX5_settleNow 19 = .ok (.bipush 78, 2) := by decide +kernel
theorem dX5_settleNow_21 : decode cX5_settleNow 21 = .ok (.iload_n 2, 1) := by decide +kernel
theorem dX5_settleNow_22 : decode cX5_settleNow 22 = .ok (.iadd, 1) := by decide +kernel
theorem dX5_settleNow_23 : decode cX5_settleNow 23 = .ok (.iaload, 1) := by decide +kernel
theorem dX5_settleNow_24 : decode cX5_settleNow 24 = .ok (.istore_n 3, 1) := by decide +kernel
theorem dX5_settleNow_25 : decode cX5_settleNow 25 = .ok (.aload_n 0, 1) := by decide +kernel
theorem dX5_settleNow_26 : decode cX5_settleNow 26 = .ok (.aload_n 0, 1) := by decide +kernel
theorem dX5_settleNow_27 : decode cX5_settleNow 27 = .ok (.iload_n 2, 1) := by decide +kernel
theorem dX5_settleNow_28 : decode cX5_settleNow 28 = .ok (.invokevirtual 116, 3) := by decide +kernel
theorem dX5_settleNow_31 : decode cX5_settleNow 31 = .ok (.invokevirtual 86, 3) := by decide +kernel
theorem dX5_settleNow_34 : decode cX5_settleNow 34 = .ok (.ifCond .eq 75, 3) := by decide +kernel
theorem dX5_settleNow_37 : decode cX5_settleNow 37 = .ok (.iload_n 3, 1) := by decide +kernel
theorem dX5_settleNow_38 : decode cX5_settleNow 38 = .ok (.iconst 2, 1) := by decide +kernel
theorem dX5_settleNow_39 : decode cX5_settleNow 39 = .ok (.if_icmp .eq 70, 3) := by decide +kernel
theorem dX5_settleNow_42 : decode cX5_settleNow 42 = .ok (.aload_n 0, 1) := by decide +kernel
theorem dX5_settleNow_43 : decode cX5_settleNow 43 = .ok (.iload_n 2, 1) := by decide +kernel
theorem dX5_settleNow_44 : decode cX5_settleNow 44 = .ok (.invokevirtual 141, 3) := by decide +kernel
theorem dX5_settleNow_47 : decode cX5_settleNow 47 = .ok (.iconst 2, 1) := by decide +kernel
theorem dX5_settleNow_48 : decode cX5_settleNow 48 = .ok (.if_icmp .ne 6, 3) := by decide +kernel
theorem dX5_settleNow_51 : decode cX5_settleNow 51 = .ok (.goto 58, 3) := by decide +kernel
theorem dX5_settleNow_54 : decode cX5_settleNow 54 = .ok (.iload_n 3, 1) := by decide +kernel
theorem dX5_settleNow_55 : decode cX5_settleNow 55 = .ok (.aload_n 0, 1) := by decide +kernel
theorem dX5_settleNow_56 : decode cX5_settleNow 56 = .ok (.iload_n 2, 1) := by decide +kernel
theorem dX5_settleNow_57 : decode cX5_settleNow 57 = .ok (.invokevirtual 141, 3) := by decide +kernel
theorem dX5_settleNow_60 : decode cX5_settleNow 60 = .ok (.if_icmp .ne 21, 3) := by decide +kernel
theorem dX5_settleNow_63 : decode cX5_settleNow 63 = .ok (.aload_n 0, 1) := by decide +kernel
theorem dX5_settleNow_64 : decode cX5_settleNow 64 = .ok (.getfield 34, 3) := by decide +kernel
theorem dX5_settleNow_67 : decode cX5_settleNow 67 = .ok (.bipush 54, 2) := by decide +kernel
theorem dX5_settleNow_69 : decode cX5_settleNow 69 = .ok (.iload_n 2, 1) := by decide +kernel
theorem dX5_settleNow_70 : decode cX5_settleNow 70 = .ok (.iadd, 1) := by decide +kernel
theorem dX5_settleNow_71 : decode cX5_settleNow 71 = .ok (.iaload, 1) := by decide +kernel
theorem dX5_settleNow_72 : decode cX5_settleNow 72 = .ok (.ifCond .le 9, 3) := by decide +kernel
theorem dX5_settleNow_75 : decode cX5_settleNow 75 = .ok (.aload_n 0, 1) := by decide +kernel
theorem dX5_settleNow_76 : decode cX5_settleNow 76 = .ok (.iconst 1, 1) := by decide +kernel
theorem dX5_settleNow_77 : decode cX5_settleNow 77 = .ok (.iload_n 2, 1) := by decide +kernel
theorem dX5_settleNow_78 : decode cX5_settleNow 78 = .ok (.invokevirtual 164, 3) := by decide +kernel
theorem dX5_settleNow_81 : decode cX5_settleNow 81 = .ok (.iload_n 3, 1) := by decide +kernel
theorem dX5_settleNow_82 : decode cX5_settleNow 82 = .ok (.aload_n 0, 1) := by decide +kernel
theorem dX5_settleNow_83 : decode cX5_settleNow 83 = .ok (.iload_n 2, 1) := by decide +kernel
theorem dX5_settleNow_84 : decode cX5_settleNow 84 = .ok (.invokevirtual 141, 3) := by decide +kernel
theorem dX5_settleNow_87 : decode cX5_settleNow 87 = .ok (.if_icmp .eq 22, 3) := by decide +kernel
theorem dX5_settleNow_90 : decode cX5_settleNow 90 = .ok (.aload_n 0, 1) := by decide +kernel
theorem dX5_settleNow_91 : decode cX5_settleNow 91 = .ok (.getfield 34, 3) := by decide +kernel
theorem dX5_settleNow_94 : decode cX5_settleNow 94 = .ok (.bipush 54, 2) := by decide +kernel
theorem dX5_settleNow_96 : decode cX5_settleNow 96 = .ok (.iload_n 2, 1) := by decide +kernel
theorem dX5_settleNow_97 : decode cX5_settleNow 97 = .ok (.iadd, 1) := by decide +kernel
theorem dX5_settleNow_98 : decode cX5_settleNow 98 = .ok (.iaload, 1) := by decide +kernel
theorem dX5_settleNow_99 : decode cX5_settleNow 99 = .ok (.iconst 2, 1) := by decide +kernel
theorem dX5_settleNow_100 : decode cX5_settleNow 100 = .ok (.if_icmp .le 9, 3) := by decide +kernel
theorem dX5_settleNow_103 : decode cX5_settleNow 103 = .ok (.aload_n 0, 1) := by decide +kernel
theorem dX5_settleNow_104 : decode cX5_settleNow 104 = .ok (.iconst 2, 1) := by decide +kernel
theorem dX5_settleNow_105 : decode cX5_settleNow 105 = .ok (.iload_n 2, 1) := by decide +kernel
theorem dX5_settleNow_106 : decode cX5_settleNow 106 = .ok (.invokevirtual 164, 3) := by decide +kernel
theorem dX5_settleNow_109 : decode cX5_settleNow 109 = .ok (.iinc 2 1, 3) := by decide +kernel
theorem dX5_settleNow_112 : decode cX5_settleNow 112 = .ok (.goto (-103), 3) := by decide +kernel
theorem dX5_settleNow_115 : decode cX5_settleNow 115 = .ok (.aload_n 0, 1) := by decide +kernel
theorem dX5_settleNow_116 : decode cX5_settleNow 116 = .ok (.invokevirtual 179, 3) := by decide +kernel
theorem dX5_settleNow_119 : decode cX5_settleNow 119 = .ok (.iload_n 1, 1) := by decide +kernel
theorem dX5_settleNow_120 : decode cX5_settleNow 120 = .ok (.ireturn, 1) := by decide +kernel
theorem dX5_pendingLines_0 : decode cX5_pendingLines 0 = .ok (.iconst 0, 1) := by decide +kernel
theorem dX5_pendingLines_1 : decode cX5_pendingLines 1 = .ok (.istore_n 1, 1) := by decide +kernel
theorem dX5_pendingLines_2 : decode cX5_pendingLines 2 = .ok (.iconst 0, 1) := by decide +kernel
theorem dX5_pendingLines_3 : decode cX5_pendingLines 3 = .ok (.istore_n 2, 1) := by decide +kernel
theorem dX5_pendingLines_4 : decode cX5_pendingLines 4 = .ok (.iload_n 2, 1) := by decide +kernel
theorem dX5_pendingLines_5 : decode cX5_pendingLines 5 = .ok (.aload_n 0, 1) := by decide +kernel
theorem dX5_pendingLines_6 : decode cX5_pendingLines 6 = .ok (.getfield 58, 3) := by decide +kernel
theorem dX5_pendingLines_9 : decode cX5_pendingLines 9 = .ok (.if_icmp .ge 30, 3) := by decide +kernel
theorem dX5_pendingLines_12 : decode cX5_pendingLines 12 = .ok (.iload_n 1, 1) := by decide +kernel
theorem dX5_pendingLines_13 : decode cX5_pendingLines 13 = .ok (.aload_n 0, 1) := by decide +kernel
theorem dX5_pendingLines_14 : decode cX5_pendingLines 14 = .ok (.getfield 34, 3) := by decide +kernel
theorem dX5_pendingLines_17 : decode cX5_pendingLines 17 = .ok (.bipush 102, 2) := by decide +kernel
theorem dX5_pendingLines_19 : decode cX5_pendingLines 19 = .ok (.iload_n 2, 1) := by decide +kernel
theorem dX5_pendingLines_20 : decode cX5_pendingLines 20 = .ok (.iadd, 1) := by decide +kernel
theorem dX5_pendingLines_21 : decode cX5_pendingLines 21 = .ok (.iaload, 1) := by decide +kernel
theorem dX5_pendingLines_22 : decode cX5_pendingLines 22 = .ok (.iconst (-1), 1) := by decide +kernel
theorem dX5_pendingLines_23 : decode cX5_pendingLines 23 = .ok (.if_icmp .ne 7, 3) := by decide +kernel
theorem dX5_pendingLines_26 : decode cX5_pendingLines 26 = .ok (.iconst 0, 1) := by decide +kernel
theorem dX5_pendingLines_27 : decode cX5_pendingLines 27 = .ok (.goto 4, 3) := by decide +kernel
theorem dX5_pendingLines_30 : decode cX5_pendingLines 30 = .ok (.iconst 1, 1) := by decide +kernel
theorem dX5_pendingLines_31 : decode cX5_pendingLines 31 = .ok (.iadd, 1) := by decide +kernel
theorem dX5_pendingLines_32 : decode cX5_pendingLines 32 = .ok (.istore_n 1, 1) := by decide +kernel
theorem dX5_pendingLines_33 : decode cX5_pendingLines 33 = .ok (.iinc 2 1, 3) := by decide +kernel
theorem dX5_pendingLines_36 : decode cX5_pendingLines 36 = .ok (.goto (-32), 3) := by decide +kernel
theorem dX5_pendingLines_39 : decode cX5_pendingLines 39 = .ok (.iload_n 1, 1) := by decide +kernel
theorem dX5_pendingLines_40 : decode cX5_pendingLines 40 = .ok (.ireturn, 1) := by decide +kernel
theorem dX5_start_0 : decode cX5_start 0 = .ok (.aload_n 0, 1) := by decide +kernel
theorem dX5_start_1 : decode cX5_start 1 = .ok (.iconst 0, 1) := by decide +kernel
theorem dX5_start_2 : decode cX5_start 2 = .ok (.putfield 50, 3) := by decide +kernel
theorem dX5_start_5 : decode cX5_start 5 = .ok (.aload_n 0, 1) := by decide +kernel
theorem dX5_start_6 : decode cX5_start 6 = .ok (.invokevirtual 110, 3) := by decide +kernel
theorem dX5_start_9 : decode cX5_start 9 = .ok (.aload_n 0, 1) := by decide +kernel
theorem dX5_start_10 : decode cX5_start 10 = .ok (.getfield 97, 3) := by decide +kernel
theorem dX5_start_13 : decode cX5_start 13 = .ok (.ifCond .le 19, 3) := by decide +kernel
theorem dX5_start_16 : decode cX5_start 16 = .ok (.aload_n 0, 1) := by decide +kernel
theorem dX5_start_17 : decode cX5_start 17 = .ok (.getfield 37, 3) := by decide +kernel
theorem dX5_start_20 : decode cX5_start 20 = .ok (.iconst 0, 1) := by decide +kernel
theorem dX5_start_21 : decode cX5_start 21 = .ok (.iaload, 1) := by decide +kernel
theorem dX5_start_22 : decode cX5_start 22 = .ok (.iconst 3, 1) := by decide +kernel
theorem dX5_start_23 : decode cX5_start 23 = .ok (.if_icmp .ge 9, 3) := by decide +kernel
theorem dX5_start_26 : decode cX5_start 26 = .ok (.aload_n 0, 1) := by decide +kernel
theorem dX5_start_27 : decode cX5_start 27 = .ok (.iconst 1, 1) := by decide +kernel
theorem dX5_start_28 : decode cX5_start 28 = .ok (.invokevirtual 69, 3) := by decide +kernel
theorem dX5_start_31 : decode cX5_start 31 = .ok (.ireturn, 1) := by decide +kernel
theorem dX5_start_32 : decode cX5_start 32 = .ok (.aload_n 0, 1) := by decide +kernel
theorem dX5_start_33 : decode cX5_start 33 = .ok (.invokevirtual 47, 3) := by decide +kernel
theorem dX5_start_36 : decode cX5_start 36 = .ok (.aload_n 0, 1) := by decide +kernel
theorem dX5_start_37 : decode cX5_start 37 = .ok (.iconst 1, 1) := by decide +kernel
theorem dX5_start_38 : decode cX5_start 38 = .ok (.putfield 61, 3) := by decide +kernel
theorem dX5_start_41 : decode cX5_start 41 = .ok (.iconst 0, 1) := by decide +kernel
theorem dX5_start_42 : decode cX5_start 42 = .ok (.istore_n 1, 1) := by decide +kernel
theorem dX5_start_43 : decode cX5_start 43 = .ok (.iload_n 1, 1) := by decide +kernel
theorem dX5_start_44 : decode cX5_start 44 = .ok (.aload_n 0, 1) := by decide +kernel
theorem dX5_start_45 : decode cX5_start 45 = .ok (.getfield 58, 3) := by decide +kernel
theorem dX5_start_48 : decode cX5_start 48 = .ok (.if_icmp .ge 30, 3) := by decide +kernel
theorem dX5_start_51 : decode cX5_start 51 = .ok (.aload_n 0, 1) := by decide +kernel
theorem dX5_start_52 : decode cX5_start 52 = .ok (.getfield 9, 3) := by decide +kernel
theorem dX5_start_55 : decode cX5_start 55 = .ok (.iload_n 1, 1) := by decide +kernel
theorem dX5_start_56 : decode cX5_start 56 = .ok (.iaload, 1) := by decide +kernel
theorem dX5_start_57 : decode cX5_start 57 = .ok (.iconst (-1), 1) := by decide +kernel
theorem dX5_start_58 : decode cX5_start 58 = .ok (.if_icmp .ne 14, 3) := by decide +kernel
theorem dX5_start_61 : decode cX5_start 61 = .ok (.aload_n 0, 1) := by decide +kernel
theorem dX5_start_62 : decode cX5_start 62 = .ok (.aload_n 0, 1) := by decide +kernel
theorem dX5_start_63 : decode cX5_start 63 = .ok (.getfield 13, 3) := by decide +kernel
theorem dX5_start_66 : decode cX5_start 66 = .ok (.iload_n 1, 1) := by decide +kernel
theorem dX5_start_67 : decode cX5_start 67 = .ok (.iaload, 1) := by decide +kernel
theorem dX5_start_68 : decode cX5_start 68 = .ok (.iconst 0, 1) := by decide +kernel
theorem dX5_start_69 : decode cX5_start 69 = .ok (.invokevirtual 170, 3) := by decide +kernel
theorem dX5_start_72 : decode cX5_start 72 = .ok (.iinc 1 1, 3) := by decide +kernel
theorem dX5_start_75 : decode cX5_start 75 = .ok (.goto (-32), 3) := by decide +kernel
theorem dX5_start_78 : decode cX5_start 78 = .ok (.aload_n 0, 1) := by decide +kernel
theorem dX5_start_79 : decode cX5_start 79 = .ok (.invokevirtual 182, 3) := by decide +kernel
theorem dX5_start_82 : decode cX5_start 82 = .ok (.ireturn, 1) := by decide +kernel
theorem dX5_isInput_0 : decode cX5_isInput 0 = .ok (.aload_n 0, 1) := by decide +kernel
theorem dX5_isInput_1 : decode cX5_isInput 1 = .ok (.iload_n 1, 1) := by decide +kernel
theorem dX5_isInput_2 : decode cX5_isInput 2 = .ok (.invokevirtual 116, 3) := by decide +kernel
theorem dX5_isInput_5 : decode cX5_isInput 5 = .ok (.iconst (-1), 1) := by decide +kernel
theorem dX5_isInput_6 : decode cX5_isInput 6 = .ok (.if_icmp .eq 21, 3) := by decide +kernel
theorem dX5_isInput_9 : decode cX5_isInput 9 = .ok (.aload_n 0, 1) := by decide +kernel
theorem dX5_isInput_10 : decode cX5_isInput 10 = .ok (.getfield 9, 3) := by decide +kernel
theorem dX5_isInput_13 : decode cX5_isInput 13 = .ok (.aload_n 0, 1) := by decide +kernel
theorem dX5_isInput_14 : decode cX5_isInput 14 = .ok (.iload_n 1, 1) := by decide +kernel
theorem dX5_isInput_15 : decode cX5_isInput 15 = .ok (.invokevirtual 116, 3) := by decide +kernel
theorem dX5_isInput_18 : decode cX5_isInput 18 = .ok (.iaload, 1) := by decide +kernel
theorem dX5_isInput_19 : decode cX5_isInput 19 = .ok (.iconst (-1), 1) := by decide +kernel
theorem dX5_isInput_20 : decode cX5_isInput 20 = .ok (.if_icmp .ne 7, 3) := by decide +kernel
theorem dX5_isInput_23 : decode cX5_isInput 23 = .ok (.iconst 1, 1) := by decide +kernel
theorem dX5_isInput_24 : decode cX5_isInput 24 = .ok (.goto 4, 3) := by decide +kernel
theorem dX5_isInput_27 : decode cX5_isInput 27 = .ok (.iconst 0, 1) := by decide +kernel
theorem dX5_isInput_28 : decode cX5_isInput 28 = .ok (.ireturn, 1) := by decide +kernel
theorem dX5_setNow_0 : decode cX5_setNow 0 = .ok (.aload_n 0, 1) := by decide +kernel
theorem dX5_setNow_1 : decode cX5_setNow 1 = .ok (.iload_n 1, 1) := by decide +kernel
theorem dX5_setNow_2 : decode cX5_setNow 2 = .ok (.invokevirtual 141, 3) := by decide +kernel
theorem dX5_setNow_5 : decode cX5_setNow 5 = .ok (.istore_n 3, 1) := by decide +kernel
theorem dX5_setNow_6 : decode cX5_setNow 6 = .ok (.aload_n 0, 1) := by decide +kernel
theorem dX5_setNow_7 : decode cX5_setNow 7 = .ok (.invokevirtual 179, 3) := by decide +kernel
theorem dX5_setNow_10 : decode cX5_setNow 10 = .ok (.iload_n 3, 1) := by decide +kernel
theorem dX5_setNow_11 : decode cX5_setNow 11 = .ok (.iload_n 2, 1) := by decide +kernel
theorem dX5_setNow_12 : decode cX5_setNow 12 = .ok (.if_icmp .eq 9, 3) := by decide +kernel
theorem dX5_setNow_15 : decode cX5_setNow 15 = .ok (.aload_n 0, 1) := by decide +kernel
theorem dX5_setNow_16 : decode cX5_setNow 16 = .ok (.iload_n 1, 1) := by decide +kernel
theorem dX5_setNow_17 : decode cX5_setNow 17 = .ok (.iload_n 2, 1) := by decide +kernel
theorem dX5_setNow_18 : decode cX5_setNow 18 = .ok (.invokevirtual 170, 3) := by decide +kernel
theorem dX5_setNow_21 : decode cX5_setNow 21 = .ok (.iload_n 3, 1) := by decide +kernel
theorem dX5_setNow_22 : decode cX5_setNow 22 = .ok (.ireturn, 1) := by decide +kernel
theorem dX5_asked_0 : decode cX5_asked 0 = .ok (.aload_n 0, 1) := by decide +kernel
theorem dX5_asked_1 : decode cX5_asked 1 = .ok (.getfield 61, 3) := by decide +kernel
theorem dX5_asked_4 : decode cX5_asked 4 = .ok (.ifCond .ne 5, 3) := by decide +kernel
theorem dX5_asked_7 : decode cX5_asked 7 = .ok (.iconst 1, 1) := by decide +kernel
theorem dX5_asked_8 : decode cX5_asked 8 = .ok (.ireturn, 1) := by decide +kernel
theorem dX5_asked_9 : decode cX5_asked 9 = .ok (.iload_n 1, 1) := by decide +kernel
theorem dX5_asked_10 : decode cX5_asked 10 = .ok (.invokestatic 65, 3) := by decide +kernel
theorem dX5_asked_13 : decode cX5_asked 13 = .ok (.ifCond .eq 10, 3) := by decide +kernel
theorem dX5_asked_16 : decode cX5_asked 16 = .ok (.iload_n 3, 1) := by decide +kernel
theorem dX5_asked_17 : decode cX5_asked 17 = .ok (.invokestatic 65, 3) := by decide +kernel
theorem dX5_asked_20 : decode cX5_asked 20 = .ok (.ifCond .ne 5, 3) := by decide +kernel
theorem dX5_asked_23 : decode cX5_asked 23 = .ok (.iconst 2, 1) := by decide +kernel
theorem dX5_asked_24 : decode cX5_asked 24 = .ok (.ireturn, 1) := by decide +kernel
theorem dX5_asked_25 : decode cX5_asked 25 = .ok (.aload_n 0, 1) := by decide +kernel
theorem dX5_asked_26 : decode cX5_asked 26 = .ok (.iload_n 1, 1) := by decide +kernel
theorem dX5_asked_27 : decode cX5_asked 27 = .ok (.invokevirtual 185, 3) := by decide +kernel
theorem dX5_asked_30 : decode cX5_asked 30 = .ok (.ifCond .eq 16, 3) := by decide +kernel
theorem dX5_asked_33 : decode cX5_asked 33 = .ok (.iload_n 2, 1) := by decide +kernel
theorem dX5_asked_34 : decode cX5_asked 34 = .ok (.iconst 0, 1) := by decide +kernel
theorem dX5_asked_35 : decode cX5_asked 35 = .ok (.iconst 1, 1) := by decide +kernel
theorem dX5_asked_36 : decode cX5_asked 36 = .ok (.invokestatic 54, 3) := by decide +kernel
theorem dX5_asked_39 : decode cX5_asked 39 = .ok (.ifCond .eq 7, 3) := by decide +kernel
theorem dX5_asked_42 : decode cX5_asked 42 = .ok (.iconst 0, 1) := by decide +kernel
theorem dX5_asked_43 : decode cX5_asked 43 = .ok (.goto 4, 3) := by decide +kernel
theorem dX5_asked_46 : decode cX5_asked 46 = .ok (.iconst 3, 1) := by decide +kernel
theorem dX5_asked_47 : decode cX5_asked 47 = .ok (.ireturn, 1) := by decide +kernel
theorem dX5_set_0 : decode cX5_set 0 = .ok (.aload_n 0, 1) := by decide +kernel
theorem dX5_set_1 : decode cX5_set 1 = .ok (.aload_n 0, 1) := by decide +kernel
theorem dX5_set_2 : decode cX5_set 2 = .ok (.iload_n 1, 1) := by decide +kernel
theorem dX5_set_3 : decode cX5_set 3 = .ok (.iload_n 2, 1) := by decide +kernel
theorem dX5_set_4 : decode cX5_set 4 = .ok (.iconst 0, 1) := by decide +kernel
theorem dX5_set_5 : decode cX5_set 5 = .ok (.invokevirtual 188, 3) := by decide +kernel
theorem dX5_set_8 : decode cX5_set 8 = .ok (.putfield 50, 3) := by decide +kernel
theorem dX5_set_11 : decode cX5_set 11 = .ok (.aload_n 0, 1) := by decide +kernel
theorem dX5_set_12 : decode cX5_set 12 = .ok (.getfield 50, 3) := by decide +kernel
theorem dX5_set_15 : decode cX5_set 15 = .ok (.ifCond .ne 12, 3) := by decide +kernel
theorem dX5_set_18 : decode cX5_set 18 = .ok (.aload_n 0, 1) := by decide +kernel
theorem dX5_set_19 : decode cX5_set 19 = .ok (.iload_n 1, 1) := by decide +kernel
theorem dX5_set_20 : decode cX5_set 20 = .ok (.iload_n 2, 1) := by decide +kernel
theorem dX5_set_21 : decode cX5_set 21 = .ok (.invokevirtual 192, 3) := by decide +kernel
theorem dX5_set_24 : decode cX5_set 24 = .ok (.goto 4, 3) := by decide +kernel
theorem dX5_set_27 : decode cX5_set 27 = .ok (.iconst 0, 1) := by decide +kernel
theorem dX5_set_28 : decode cX5_set 28 = .ok (.ireturn, 1) := by decide +kernel
theorem dX5_pass_0 : decode cX5_pass 0 = .ok (.aload_n 0, 1) := by decide +kernel
theorem dX5_pass_1 : decode cX5_pass 1 = .ok (.iconst 0, 1) := by decide +kernel
theorem dX5_pass_2 : decode cX5_pass 2 = .ok (.putfield 50, 3) := by decide +kernel
theorem dX5_pass_5 : decode cX5_pass 5 = .ok (.aload_n 0, 1) := by decide +kernel
theorem dX5_pass_6 : decode cX5_pass 6 = .ok (.getfield 61, 3) := by decide +kernel
theorem dX5_pass_9 : decode cX5_pass 9 = .ok (.ifCond .ne 9, 3) := by decide +kernel
theorem dX5_pass_12 : decode cX5_pass 12 = .ok (.aload_n 0, 1) := by decide +kernel
theorem dX5_pass_13 : decode cX5_pass 13 = .ok (.iconst 1, 1) := by decide +kernel
theorem dX5_pass_14 : decode cX5_pass 14 = .ok (.invokevirtual 69, 3) := by decide +kernel
theorem dX5_pass_17 : decode cX5_pass 17 = .ok (.ireturn, 1) := by decide +kernel
theorem dX5_pass_18 : decode cX5_pass 18 = .ok (.iload_n 1, 1) := by decide +kernel
theorem dX5_pass_19 : decode cX5_pass 19 = .ok (.iconst 0, 1) := by decide +kernel
theorem dX5_pass_20 : decode cX5_pass 20 = .ok (.bipush 100, 2) := by decide +kernel
theorem dX5_pass_22 : decode cX5_pass 22 = .ok (.invokestatic 54, 3) := by decide +kernel
theorem dX5_pass_25 : decode cX5_pass 25 = .ok (.ifCond .ne 9, 3) := by decide +kernel
theorem dX5_pass_28 : decode cX5_pass 28 = .ok (.aload_n 0, 1) := by decide +kernel
theorem dX5_pass_29 : decode cX5_pass 29 = .ok (.iconst 2, 1) := by decide +kernel
theorem dX5_pass_30 : decode cX5_pass 30 = .ok (.invokevirtual 69, 3) := by decide +kernel
theorem dX5_pass_33 : decode cX5_pass 33 = .ok (.ireturn, 1) := by decide +kernel
theorem dX5_pass_34 : decode cX5_pass 34 = .ok (.aload_n 0, 1) := by decide +kernel
theorem dX5_pass_35 : decode cX5_pass 35 = .ok (.getfield 34, 3) := by decide +kernel
theorem dX5_pass_38 : decode cX5_pass 38 = .ok (.iconst 0, 1) := by decide +kernel
theorem dX5_pass_39 : decode cX5_pass 39 = .ok (.iaload, 1) := by decide +kernel
theorem dX5_pass_40 : decode cX5_pass 40 = .ok (.iload_n 1, 1) := by decide +kernel
theorem dX5_pass_41 : decode cX5_pass 41 = .ok (.iadd, 1) := by decide +kernel
theorem dX5_pass_42 : decode cX5_pass 42 = .ok (.istore_n 2, 1) := by decide +kernel
theorem dX5_pass_43 : decode cX5_pass 43 = .ok (.aload_n 0, 1) := by decide +kernel
theorem dX5_pass_44 : decode cX5_pass 44 = .ok (.iload_n 2, 1) := by decide +kernel
theorem dX5_pass_45 : decode cX5_pass 45 = .ok (.invokevirtual 176, 3) := by decide +kernel
theorem dX5_pass_48 : decode cX5_pass 48 = .ok (.istore_n 3, 1) := by decide +kernel
theorem dX5_pass_49 : decode cX5_pass 49 = .ok (.aload_n 0, 1) := by decide +kernel
theorem dX5_pass_50 : decode cX5_pass 50 = .ok (.getfield 34, 3) := by decide +kernel
theorem dX5_pass_53 : decode cX5_pass 53 = .ok (.iconst 0, 1) := by decide +kernel
theorem dX5_pass_54 : decode cX5_pass 54 = .ok (.iload_n 2, 1) := by decide +kernel
theorem dX5_pass_55 : decode cX5_pass 55 = .ok (.iastore, 1) := by decide +kernel
theorem dX5_pass_56 : decode cX5_pass 56 = .ok (.iload_n 3, 1) := by decide +kernel
theorem dX5_pass_57 : decode cX5_pass 57 = .ok (.ireturn, 1) := by decide +kernel
theorem dX5_settle_0 : decode cX5_settle 0 = .ok (.aload_n 0, 1) := by decide +kernel
theorem dX5_settle_1 : decode cX5_settle 1 = .ok (.iconst 0, 1) := by decide +kernel
theorem dX5_settle_2 : decode cX5_settle 2 = .ok (.putfield 50, 3) := by decide +kernel
theorem dX5_settle_5 : decode cX5_settle 5 = .ok (.aload_n 0, 1) := by decide +kernel
theorem dX5_settle_6 : decode cX5_settle 6 = .ok (.getfield 61, 3) := by decide +kernel
theorem dX5_settle_9 : decode cX5_settle 9 = .ok (.ifCond .eq 10, 3) := by decide +kernel
theorem dX5_settle_12 : decode cX5_settle 12 = .ok (.aload_n 0, 1) := by decide +kernel
theorem dX5_settle_13 : decode cX5_settle 13 = .ok (.invokevirtual 195, 3) := by decide +kernel
theorem dX5_settle_16 : decode cX5_settle 16 = .ok (.goto 8, 3) := by decide +kernel
theorem dX5_settle_19 : decode cX5_settle 19 = .ok (.aload_n 0, 1) := by decide +kernel
theorem dX5_settle_20 : decode cX5_settle 20 = .ok (.iconst 1, 1) := by decide +kernel
theorem dX5_settle_21 : decode cX5_settle 21 = .ok (.invokevirtual 69, 3) := by decide +kernel
theorem dX5_settle_24 : decode cX5_settle 24 = .ok (.ireturn, 1) := by decide +kernel
theorem dX5_isRunning_0 : decode cX5_isRunning 0 = .ok (.aload_n 0, 1) := by decide +kernel
theorem dX5_isRunning_1 : decode cX5_isRunning 1 = .ok (.iconst 0, 1) := by decide +kernel
theorem dX5_isRunning_2 : decode cX5_isRunning 2 = .ok (.putfield 50, 3) := by decide +kernel
theorem dX5_isRunning_5 : decode cX5_isRunning 5 = .ok (.aload_n 0, 1) := by decide +kernel
theorem dX5_isRunning_6 : decode cX5_isRunning 6 = .ok (.getfield 61, 3) := by decide +kernel
theorem dX5_isRunning_9 : decode cX5_isRunning 9 = .ok (.ireturn, 1) := by decide +kernel
theorem dX5_toldNow_0 : decode cX5_toldNow 0 = .ok (.iload_n 1, 1) := by decide +kernel
theorem dX5_toldNow_1 : decode cX5_toldNow 1 = .ok (.tableswitch 87 0 4 #[35, 42, 47, 73, 80], 35) := by decide +kernel
theorem dX5_toldNow_36 : decode cX5_toldNow 36 = .ok (.aload_n 0, 1) := by decide +kernel
theorem dX5_toldNow_37 : decode cX5_toldNow 37 = .ok (.getfield 34, 3) := by decide +kernel
theorem dX5_toldNow_40 : decode cX5_toldNow 40 = .ok (.iconst 0, 1) := by decide +kernel
theorem dX5_toldNow_41 : decode cX5_toldNow 41 = .ok (.iaload, 1) := by decide +kernel
theorem dX5_toldNow_42 : decode cX5_toldNow 42 = .ok (.ireturn, 1) := by decide +kernel
theorem dX5_toldNow_43 : decode cX5_toldNow 43 = .ok (.aload_n 0, 1) := by decide +kernel
theorem dX5_toldNow_44 : decode cX5_toldNow 44 = .ok (.invokevirtual 182, 3) := by decide +kernel
theorem dX5_toldNow_47 : decode cX5_toldNow 47 = .ok (.ireturn, 1) := by decide +kernel
theorem dX5_toldNow_48 : decode cX5_toldNow 48 = .ok (.aload_n 0, 1) := by decide +kernel
theorem dX5_toldNow_49 : decode cX5_toldNow 49 = .ok (.invokevirtual 167, 3) := by decide +kernel
theorem dX5_toldNow_52 : decode cX5_toldNow 52 = .ok (.iconst (-1), 1) := by decide +kernel
theorem dX5_toldNow_53 : decode cX5_toldNow 53 = .ok (.if_icmp .ne 7, 3) := by decide +kernel
theorem dX5_toldNow_56 : decode cX5_toldNow 56 = .ok (.iconst (-1), 1) := by decide +kernel
theorem dX5_toldNow_57 : decode cX5_toldNow 57 = .ok (.goto 16, 3) := by decide +kernel
theorem dX5_toldNow_60 : decode cX5_toldNow 60 = .ok (.aload_n 0, 1) := by decide +kernel
theorem dX5_toldNow_61 : decode cX5_toldNow 61 = .ok (.getfield 34, 3) := by decide +kernel
theorem dX5_toldNow_64 : decode cX5_toldNow 64 = .ok (.sipush 132, 3) := by decide +kernel
theorem dX5_toldNow_67 : decode cX5_toldNow 67 = .ok (.aload_n 0, 1) := by decide +kernel
theorem dX5_toldNow_68 : decode cX5_toldNow 68 = .ok (.invokevirtual 167, 3) := by decide +kernel
theorem dX5_toldNow_71 : decode cX5_toldNow 71 = .ok (.iadd, 1) := by decide +kernel
theorem dX5_toldNow_72 : decode cX5_toldNow 72 = .ok (.iaload, 1) := by decide +kernel
theorem dX5_toldNow_73 : decode cX5_toldNow 73 = .ok (.ireturn, 1) := by decide +kernel
theorem dX5_toldNow_74 : decode cX5_toldNow 74 = .ok (.aload_n 0, 1) := by decide +kernel
theorem dX5_toldNow_75 : decode cX5_toldNow 75 = .ok (.getfield 34, 3) := by decide +kernel
theorem dX5_toldNow_78 : decode cX5_toldNow 78 = .ok (.iconst 1, 1) := by decide +kernel
theorem dX5_toldNow_79 : decode cX5_toldNow 79 = .ok (.iaload, 1) := by decide +kernel
theorem dX5_toldNow_80 : decode cX5_toldNow 80 = .ok (.ireturn, 1) := by decide +kernel
theorem dX5_toldNow_81 : decode cX5_toldNow 81 = .ok (.aload_n 0, 1) := by decide +kernel
theorem dX5_toldNow_82 : decode cX5_toldNow 82 = .ok (.getfield 34, 3) := by decide +kernel
theorem dX5_toldNow_85 : decode cX5_toldNow 85 = .ok (.iconst 2, 1) := by decide +kernel
theorem dX5_toldNow_86 : decode cX5_toldNow 86 = .ok (.iaload, 1) := by decide +kernel
theorem dX5_toldNow_87 : decode cX5_toldNow 87 = .ok (.ireturn, 1) := by decide +kernel
theorem dX5_toldNow_88 : decode cX5_toldNow 88 = .ok (.aload_n 0, 1) := by decide +kernel
theorem dX5_toldNow_89 : decode cX5_toldNow 89 = .ok (.getfield 34, 3) := by decide +kernel
theorem dX5_toldNow_92 : decode cX5_toldNow 92 = .ok (.iconst 3, 1) := by decide +kernel
theorem dX5_toldNow_93 : decode cX5_toldNow 93 = .ok (.iaload, 1) := by decide +kernel
theorem dX5_toldNow_94 : decode cX5_toldNow 94 = .ok (.ireturn, 1) := by decide +kernel
theorem dX5_told_0 : decode cX5_told 0 = .ok (.aload_n 0, 1) := by decide +kernel
theorem dX5_told_1 : decode cX5_told 1 = .ok (.iconst 0, 1) := by decide +kernel
theorem dX5_told_2 : decode cX5_told 2 = .ok (.putfield 50, 3) := by decide +kernel
theorem dX5_told_5 : decode cX5_told 5 = .ok (.iload_n 1, 1) := by decide +kernel
theorem dX5_told_6 : decode cX5_told 6 = .ok (.iconst 0, 1) := by decide +kernel
theorem dX5_told_7 : decode cX5_told 7 = .ok (.iconst 5, 1) := by decide +kernel
theorem dX5_told_8 : decode cX5_told 8 = .ok (.invokestatic 54, 3) := by decide +kernel
theorem dX5_told_11 : decode cX5_told 11 = .ok (.ifCond .eq 11, 3) := by decide +kernel
theorem dX5_told_14 : decode cX5_told 14 = .ok (.aload_n 0, 1) := by decide +kernel
theorem dX5_told_15 : decode cX5_told 15 = .ok (.iload_n 1, 1) := by decide +kernel
theorem dX5_told_16 : decode cX5_told 16 = .ok (.invokevirtual 198, 3) := by decide +kernel
theorem dX5_told_19 : decode cX5_told 19 = .ok (.goto 8, 3) := by decide +kernel
theorem dX5_told_22 : decode cX5_told 22 = .ok (.aload_n 0, 1) := by decide +kernel
theorem dX5_told_23 : decode cX5_told 23 = .ok (.iconst 1, 1) := by decide +kernel
theorem dX5_told_24 : decode cX5_told 24 = .ok (.invokevirtual 69, 3) := by decide +kernel
theorem dX5_told_27 : decode cX5_told 27 = .ok (.ireturn, 1) := by decide +kernel
theorem dX5_ofWire_0 : decode cX5_ofWire 0 = .ok (.aload_n 0, 1) := by decide +kernel
theorem dX5_ofWire_1 : decode cX5_ofWire 1 = .ok (.iconst 0, 1) := by decide +kernel
theorem dX5_ofWire_2 : decode cX5_ofWire 2 = .ok (.putfield 50, 3) := by decide +kernel
theorem dX5_ofWire_5 : decode cX5_ofWire 5 = .ok (.iload_n 1, 1) := by decide +kernel
theorem dX5_ofWire_6 : decode cX5_ofWire 6 = .ok (.invokestatic 65, 3) := by decide +kernel
theorem dX5_ofWire_9 : decode cX5_ofWire 9 = .ok (.ifCond .ne 9, 3) := by decide +kernel
theorem dX5_ofWire_12 : decode cX5_ofWire 12 = .ok (.aload_n 0, 1) := by decide +kernel
theorem dX5_ofWire_13 : decode cX5_ofWire 13 = .ok (.iconst 1, 1) := by decide +kernel
theorem dX5_ofWire_14 : decode cX5_ofWire 14 = .ok (.invokevirtual 69, 3) := by decide +kernel
theorem dX5_ofWire_17 : decode cX5_ofWire 17 = .ok (.ireturn, 1) := by decide +kernel
theorem dX5_ofWire_18 : decode cX5_ofWire 18 = .ok (.iload_n 2, 1) := by decide +kernel
theorem dX5_ofWire_19 : decode cX5_ofWire 19 = .ok (.iconst 0, 1) := by decide +kernel
theorem dX5_ofWire_20 : decode cX5_ofWire 20 = .ok (.iconst 3, 1) := by decide +kernel
theorem dX5_ofWire_21 : decode cX5_ofWire 21 = .ok (.invokestatic 54, 3) := by decide +kernel
theorem dX5_ofWire_24 : decode cX5_ofWire 24 = .ok (.ifCond .eq 20, 3) := by decide +kernel
theorem dX5_ofWire_27 : decode cX5_ofWire 27 = .ok (.aload_n 0, 1) := by decide +kernel
theorem dX5_ofWire_28 : decode cX5_ofWire 28 = .ok (.getfield 34, 3) := by decide +kernel
theorem dX5_ofWire_31 : decode cX5_ofWire 31 = .ok (.bipush 6, 2) := by decide +kernel
theorem dX5_ofWire_33 : decode cX5_ofWire 33 = .ok (.iload_n 2, 1) := by decide +kernel
theorem dX5_ofWire_34 : decode cX5_ofWire 34 = .ok (.bipush 24, 2) := by decide +kernel
theorem dX5_ofWire_36 : decode cX5_ofWire 36 = .ok (.imul, 1) := by decide +kernel
theorem dX5_ofWire_37 : decode cX5_ofWire 37 = .ok (.iadd, 1) := by decide +kernel
theorem dX5_ofWire_38 : decode cX5_ofWire 38 = .ok (.iload_n 1, 1) := by decide +kernel
theorem dX5_ofWire_39 : decode cX5_ofWire 39 = .ok (.iadd, 1) := by decide +kernel
theorem dX5_ofWire_40 : decode cX5_ofWire 40 = .ok (.iaload, 1) := by decide +kernel
theorem dX5_ofWire_41 : decode cX5_ofWire 41 = .ok (.goto 8, 3) := by decide +kernel
theorem dX5_ofWire_44 : decode cX5_ofWire 44 = .ok (.aload_n 0, 1) := by decide +kernel
theorem dX5_ofWire_45 : decode cX5_ofWire 45 = .ok (.iconst 2, 1) := by decide +kernel
theorem dX5_ofWire_46 : decode cX5_ofWire 46 = .ok (.invokevirtual 69, 3) := by decide +kernel
theorem dX5_ofWire_49 : decode cX5_ofWire 49 = .ok (.ireturn, 1) := by decide +kernel
theorem dX5_pending_0 : decode cX5_pending 0 = .ok (.aload_n 0, 1) := by decide +kernel
theorem dX5_pending_1 : decode cX5_pending 1 = .ok (.iconst 0, 1) := by decide +kernel
theorem dX5_pending_2 : decode cX5_pending 2 = .ok (.putfield 50, 3) := by decide +kernel
theorem dX5_pending_5 : decode cX5_pending 5 = .ok (.aload_n 0, 1) := by decide +kernel
theorem dX5_pending_6 : decode cX5_pending 6 = .ok (.iload_n 1, 1) := by decide +kernel
theorem dX5_pending_7 : decode cX5_pending 7 = .ok (.invokevirtual 80, 3) := by decide +kernel
theorem dX5_pending_10 : decode cX5_pending 10 = .ok (.ifCond .eq 15, 3) := by decide +kernel
theorem dX5_pending_13 : decode cX5_pending 13 = .ok (.aload_n 0, 1) := by decide +kernel
theorem dX5_pending_14 : decode cX5_pending 14 = .ok (.getfield 34, 3) := by decide +kernel
theorem dX5_pending_17 : decode cX5_pending 17 = .ok (.bipush 102, 2) := by decide +kernel
theorem dX5_pending_19 : decode cX5_pending 19 = .ok (.iload_n 1, 1) := by decide +kernel
theorem dX5_pending_20 : decode cX5_pending 20 = .ok (.iadd, 1) := by decide +kernel
theorem dX5_pending_21 : decode cX5_pending 21 = .ok (.iaload, 1) := by decide +kernel
theorem dX5_pending_22 : decode cX5_pending 22 = .ok (.goto 8, 3) := by decide +kernel
theorem dX5_pending_25 : decode cX5_pending 25 = .ok (.aload_n 0, 1) := by decide +kernel
theorem dX5_pending_26 : decode cX5_pending 26 = .ok (.iconst 1, 1) := by decide +kernel
theorem dX5_pending_27 : decode cX5_pending 27 = .ok (.invokevirtual 69, 3) := by decide +kernel
theorem dX5_pending_30 : decode cX5_pending 30 = .ok (.ireturn, 1) := by decide +kernel
theorem dX5_hazards_0 : decode cX5_hazards 0 = .ok (.aload_n 0, 1) := by decide +kernel
theorem dX5_hazards_1 : decode cX5_hazards 1 = .ok (.aload_n 0, 1) := by decide +kernel
theorem dX5_hazards_2 : decode cX5_hazards 2 = .ok (.getfield 34, 3) := by decide +kernel
theorem dX5_hazards_5 : decode cX5_hazards 5 = .ok (.iconst 5, 1) := by decide +kernel
theorem dX5_hazards_6 : decode cX5_hazards 6 = .ok (.iaload, 1) := by decide +kernel
theorem dX5_hazards_7 : decode cX5_hazards 7 = .ok (.invokevirtual 83, 3) := by decide +kernel
theorem dX5_hazards_10 : decode cX5_hazards 10 = .ok (.ireturn, 1) := by decide +kernel
theorem dX5_ofHazard_0 : decode cX5_ofHazard 0 = .ok (.aload_n 0, 1) := by decide +kernel
theorem dX5_ofHazard_1 : decode cX5_ofHazard 1 = .ok (.iconst 0, 1) := by decide +kernel
theorem dX5_ofHazard_2 : decode cX5_ofHazard 2 = .ok (.putfield 50, 3) := by decide +kernel
theorem dX5_ofHazard_5 : decode cX5_ofHazard 5 = .ok (.iload_n 1, 1) := by decide +kernel
theorem dX5_ofHazard_6 : decode cX5_ofHazard 6 = .ok (.iconst 0, 1) := by decide +kernel
theorem dX5_ofHazard_7 : decode cX5_ofHazard 7 = .ok (.aload_n 0, 1) := by decide +kernel
theorem dX5_ofHazard_8 : decode cX5_ofHazard 8 = .ok (.getfield 34, 3) := by decide +kernel
theorem dX5_ofHazard_11 : decode cX5_ofHazard 11 = .ok (.iconst 5, 1) := by decide +kernel
theorem dX5_ofHazard_12 : decode cX5_ofHazard 12 = .ok (.iaload, 1) := by decide +kernel
theorem dX5_ofHazard_13 : decode cX5_ofHazard 13 = .ok (.iconst 1, 1) := by decide +kernel
theorem dX5_ofHazard_14 : decode cX5_ofHazard 14 = .ok (.isub, 1) := by decide +kernel
theorem dX5_ofHazard_15 : decode cX5_ofHazard 15 = .ok (.invokestatic 54, 3) := by decide +kernel
theorem dX5_ofHazard_18 : decode cX5_ofHazard 18 = .ok (.ifCond .ne 9, 3) := by decide +kernel
theorem dX5_ofHazard_21 : decode cX5_ofHazard 21 = .ok (.aload_n 0, 1) := by decide +kernel
theorem dX5_ofHazard_22 : decode cX5_ofHazard 22 = .ok (.iconst 1, 1) := by decide +kernel
theorem dX5_ofHazard_23 : decode cX5_ofHazard 23 = .ok (.invokevirtual 69, 3) := by decide +kernel
theorem dX5_ofHazard_26 : decode cX5_ofHazard 26 = .ok (.ireturn, 1) := by decide +kernel
theorem dX5_ofHazard_27 : decode cX5_ofHazard 27 = .ok (.iload_n 2, 1) := by decide +kernel
theorem dX5_ofHazard_28 : decode cX5_ofHazard 28 = .ok (.iconst 0, 1) := by decide +kernel
theorem dX5_ofHazard_29 : decode cX5_ofHazard 29 = .ok (.iconst 2, 1) := by decide +kernel
theorem dX5_ofHazard_30 : decode cX5_ofHazard 30 = .ok (.invokestatic 54, 3) := by decide +kernel
theorem dX5_ofHazard_33 : decode cX5_ofHazard 33 = .ok (.ifCond .eq 20, 3) := by decide +kernel
theorem dX5_ofHazard_36 : decode cX5_ofHazard 36 = .ok (.aload_n 0, 1) := by decide +kernel
theorem dX5_ofHazard_37 : decode cX5_ofHazard 37 = .ok (.getfield 34, 3) := by decide +kernel
theorem dX5_ofHazard_40 : decode cX5_ofHazard 40 = .ok (.sipush 222, 3) := by decide +kernel
theorem dX5_ofHazard_43 : decode cX5_ofHazard 43 = .ok (.iconst 3, 1) := by decide +kernel
theorem dX5_ofHazard_44 : decode cX5_ofHazard 44 = .ok (.iload_n 1, 1) := by decide +kernel
theorem dX5_ofHazard_45 : decode cX5_ofHazard 45 = .ok (.imul, 1) := by decide +kernel
theorem dX5_ofHazard_46 : decode cX5_ofHazard 46 = .ok (.iadd, 1) := by decide +kernel
theorem dX5_ofHazard_47 : decode cX5_ofHazard 47 = .ok (.iload_n 2, 1) := by decide +kernel
theorem dX5_ofHazard_48 : decode cX5_ofHazard 48 = .ok (.iadd, 1) := by decide +kernel
theorem dX5_ofHazard_49 : decode cX5_ofHazard 49 = .ok (.iaload, 1) := by decide +kernel
theorem dX5_ofHazard_50 : decode cX5_ofHazard 50 = .ok (.goto 8, 3) := by decide +kernel
theorem dX5_ofHazard_53 : decode cX5_ofHazard 53 = .ok (.aload_n 0, 1) := by decide +kernel
theorem dX5_ofHazard_54 : decode cX5_ofHazard 54 = .ok (.iconst 2, 1) := by decide +kernel
theorem dX5_ofHazard_55 : decode cX5_ofHazard 55 = .ok (.invokevirtual 69, 3) := by decide +kernel
theorem dX5_ofHazard_58 : decode cX5_ofHazard 58 = .ok (.ireturn, 1) := by decide +kernel
theorem dX5_putBy_0 : decode cX5_putBy 0 = .ok (.aload_n 0, 1) := by decide +kernel
theorem dX5_putBy_1 : decode cX5_putBy 1 = .ok (.getfield 34, 3) := by decide +kernel
theorem dX5_putBy_4 : decode cX5_putBy 4 = .ok (.astore_n 1, 1) := by decide +kernel
theorem dX5_putBy_5 : decode cX5_putBy 5 = .ok (.aload_n 0, 1) := by decide +kernel
theorem dX5_putBy_6 : decode cX5_putBy 6 = .ok (.sipush 342, 3) := by decide +kernel
theorem dX5_putBy_9 : decode cX5_putBy 9 = .ok (.newarray .int, 2) := by decide +kernel
theorem dX5_putBy_11 : decode cX5_putBy 11 = .ok (.putfield 34, 3) := by decide +kernel
theorem dX5_putBy_14 : decode cX5_putBy 14 = .ok (.aload_n 1, 1) := by decide +kernel
theorem dX5_putBy_15 : decode cX5_putBy 15 = .ok (.iconst 0, 1) := by decide +kernel
theorem dX5_putBy_16 : decode cX5_putBy 16 = .ok (.aload_n 0, 1) := by decide +kernel
theorem dX5_putBy_17 : decode cX5_putBy 17 = .ok (.getfield 34, 3) := by decide +kernel
theorem dX5_putBy_20 : decode cX5_putBy 20 = .ok (.iconst 0, 1) := by decide +kernel
theorem dX5_putBy_21 : decode cX5_putBy 21 = .ok (.sipush 342, 3) := by decide +kernel
theorem dX5_putBy_24 : decode cX5_putBy 24 = .ok (.invokestatic 201, 3) := by decide +kernel
theorem dX5_putBy_27 : decode cX5_putBy 27 = .ok (.aload_n 1, 1) := by decide +kernel
theorem dX5_putBy_28 : decode cX5_putBy 28 = .ok (.areturn, 1) := by decide +kernel
theorem dX5_wouldBe_0 : decode cX5_wouldBe 0 = .ok (.aload_n 0, 1) := by decide +kernel
theorem dX5_wouldBe_1 : decode cX5_wouldBe 1 = .ok (.aload_n 0, 1) := by decide +kernel
theorem dX5_wouldBe_2 : decode cX5_wouldBe 2 = .ok (.iload_n 1, 1) := by decide +kernel
theorem dX5_wouldBe_3 : decode cX5_wouldBe 3 = .ok (.iload_n 2, 1) := by decide +kernel
theorem dX5_wouldBe_4 : decode cX5_wouldBe 4 = .ok (.iload_n 3, 1) := by decide +kernel
theorem dX5_wouldBe_5 : decode cX5_wouldBe 5 = .ok (.invokevirtual 188, 3) := by decide +kernel
theorem dX5_wouldBe_8 : decode cX5_wouldBe 8 = .ok (.putfield 50, 3) := by decide +kernel
theorem dX5_wouldBe_11 : decode cX5_wouldBe 11 = .ok (.aload_n 0, 1) := by decide +kernel
theorem dX5_wouldBe_12 : decode cX5_wouldBe 12 = .ok (.getfield 50, 3) := by decide +kernel
theorem dX5_wouldBe_15 : decode cX5_wouldBe 15 = .ok (.ifCond .eq 5, 3) := by decide +kernel
theorem dX5_wouldBe_18 : decode cX5_wouldBe 18 = .ok (.iconst 0, 1) := by decide +kernel
theorem dX5_wouldBe_19 : decode cX5_wouldBe 19 = .ok (.ireturn, 1) := by decide +kernel
theorem dX5_wouldBe_20 : decode cX5_wouldBe 20 = .ok (.aload_n 0, 1) := by decide +kernel
theorem dX5_wouldBe_21 : decode cX5_wouldBe 21 = .ok (.invokevirtual 207, 3) := by decide +kernel
theorem dX5_wouldBe_24 : decode cX5_wouldBe 24 = .ok (.astore 4, 2) := by decide +kernel
theorem dX5_wouldBe_26 : decode cX5_wouldBe 26 = .ok (.aload_n 0, 1) := by decide +kernel
theorem dX5_wouldBe_27 : decode cX5_wouldBe 27 = .ok (.iload_n 1, 1) := by decide +kernel
theorem dX5_wouldBe_28 : decode cX5_wouldBe 28 = .ok (.iload_n 2, 1) := by decide +kernel
theorem dX5_wouldBe_29 : decode cX5_wouldBe 29 = .ok (.invokevirtual 192, 3) := by decide +kernel
theorem dX5_wouldBe_32 : decode cX5_wouldBe 32 = .ok (.pop, 1) := by decide +kernel
theorem dX5_wouldBe_33 : decode cX5_wouldBe 33 = .ok (.aload_n 0, 1) := by decide +kernel
theorem dX5_wouldBe_34 : decode cX5_wouldBe 34 = .ok (.invokevirtual 195, 3) := by decide +kernel
theorem dX5_wouldBe_37 : decode cX5_wouldBe 37 = .ok (.pop, 1) := by decide +kernel
theorem dX5_wouldBe_38 : decode cX5_wouldBe 38 = .ok (.aload_n 0, 1) := by decide +kernel
theorem dX5_wouldBe_39 : decode cX5_wouldBe 39 = .ok (.iload_n 3, 1) := by decide +kernel
theorem dX5_wouldBe_40 : decode cX5_wouldBe 40 = .ok (.invokevirtual 141, 3) := by decide +kernel
theorem dX5_wouldBe_43 : decode cX5_wouldBe 43 = .ok (.istore 5, 2) := by decide +kernel
theorem dX5_wouldBe_45 : decode cX5_wouldBe 45 = .ok (.aload_n 0, 1) := by decide +kernel
theorem dX5_wouldBe_46 : decode cX5_wouldBe 46 = .ok (.aload 4, 2) := by decide +kernel
theorem dX5_wouldBe_48 : decode cX5_wouldBe 48 = .ok (.putfield 34, 3) := by decide +kernel
theorem dX5_wouldBe_51 : decode cX5_wouldBe 51 = .ok (.iload 5, 2) := by decide +kernel
theorem dX5_wouldBe_53 : decode cX5_wouldBe 53 = .ok (.ireturn, 1) := by decide +kernel
theorem dX5_hazardsWith_0 : decode cX5_hazardsWith 0 = .ok (.aload_n 0, 1) := by decide +kernel
theorem dX5_hazardsWith_1 : decode cX5_hazardsWith 1 = .ok (.aload_n 0, 1) := by decide +kernel
theorem dX5_hazardsWith_2 : decode cX5_hazardsWith 2 = .ok (.iload_n 1, 1) := by decide +kernel
theorem dX5_hazardsWith_3 : decode cX5_hazardsWith 3 = .ok (.iload_n 2, 1) := by decide +kernel
theorem dX5_hazardsWith_4 : decode cX5_hazardsWith 4 = .ok (.iconst 0, 1) := by decide +kernel
theorem dX5_hazardsWith_5 : decode cX5_hazardsWith 5 = .ok (.invokevirtual 188, 3) := by decide +kernel
theorem dX5_hazardsWith_8 : decode cX5_hazardsWith 8 = .ok (.putfield 50, 3) := by decide +kernel
theorem dX5_hazardsWith_11 : decode cX5_hazardsWith 11 = .ok (.aload_n 0, 1) := by decide +kernel
theorem dX5_hazardsWith_12 : decode cX5_hazardsWith 12 = .ok (.getfield 50, 3) := by decide +kernel
theorem dX5_hazardsWith_15 : decode cX5_hazardsWith 15 = .ok (.ifCond .eq 5, 3) := by decide +kernel
theorem dX5_hazardsWith_18 : decode cX5_hazardsWith 18 = .ok (.iconst 0, 1) := by decide +kernel
theorem dX5_hazardsWith_19 : decode cX5_hazardsWith 19 = .ok (.ireturn, 1) := by decide +kernel
theorem dX5_hazardsWith_20 : decode cX5_hazardsWith 20 = .ok (.aload_n 0, 1) := by decide +kernel
theorem dX5_hazardsWith_21 : decode cX5_hazardsWith 21 = .ok (.invokevirtual 207, 3) := by decide +kernel
theorem dX5_hazardsWith_24 : decode cX5_hazardsWith 24 = .ok (.astore_n 3, 1) := by decide +kernel
theorem dX5_hazardsWith_25 : decode cX5_hazardsWith 25 = .ok (.aload_n 0, 1) := by decide +kernel
theorem dX5_hazardsWith_26 : decode cX5_hazardsWith 26 = .ok (.iload_n 1, 1) := by decide +kernel
theorem dX5_hazardsWith_27 : decode cX5_hazardsWith 27 = .ok (.iload_n 2, 1) := by decide +kernel
theorem dX5_hazardsWith_28 : decode cX5_hazardsWith 28 = .ok (.invokevirtual 192, 3) := by decide +kernel
theorem dX5_hazardsWith_31 : decode cX5_hazardsWith 31 = .ok (.pop, 1) := by decide +kernel
theorem dX5_hazardsWith_32 : decode cX5_hazardsWith 32 = .ok (.aload_n 0, 1) := by decide +kernel
theorem dX5_hazardsWith_33 : decode cX5_hazardsWith 33 = .ok (.invokevirtual 195, 3) := by decide +kernel
theorem dX5_hazardsWith_36 : decode cX5_hazardsWith 36 = .ok (.pop, 1) := by decide +kernel
theorem dX5_hazardsWith_37 : decode cX5_hazardsWith 37 = .ok (.aload_n 0, 1) := by decide +kernel
theorem dX5_hazardsWith_38 : decode cX5_hazardsWith 38 = .ok (.getfield 34, 3) := by decide +kernel
theorem dX5_hazardsWith_41 : decode cX5_hazardsWith 41 = .ok (.iconst 5, 1) := by decide +kernel
theorem dX5_hazardsWith_42 : decode cX5_hazardsWith 42 = .ok (.iaload, 1) := by decide +kernel
theorem dX5_hazardsWith_43 : decode cX5_hazardsWith 43 = .ok (.istore 4, 2) := by decide +kernel
theorem dX5_hazardsWith_45 : decode cX5_hazardsWith 45 = .ok (.aload_n 0, 1) := by decide +kernel
theorem dX5_hazardsWith_46 : decode cX5_hazardsWith 46 = .ok (.aload_n 3, 1) := by decide +kernel
theorem dX5_hazardsWith_47 : decode cX5_hazardsWith 47 = .ok (.putfield 34, 3) := by decide +kernel
theorem dX5_hazardsWith_50 : decode cX5_hazardsWith 50 = .ok (.iload 4, 2) := by decide +kernel
theorem dX5_hazardsWith_52 : decode cX5_hazardsWith 52 = .ok (.aload_n 0, 1) := by decide +kernel
theorem dX5_hazardsWith_53 : decode cX5_hazardsWith 53 = .ok (.getfield 34, 3) := by decide +kernel
theorem dX5_hazardsWith_56 : decode cX5_hazardsWith 56 = .ok (.iconst 5, 1) := by decide +kernel
theorem dX5_hazardsWith_57 : decode cX5_hazardsWith 57 = .ok (.iaload, 1) := by decide +kernel
theorem dX5_hazardsWith_58 : decode cX5_hazardsWith 58 = .ok (.isub, 1) := by decide +kernel
theorem dX5_hazardsWith_59 : decode cX5_hazardsWith 59 = .ok (.ireturn, 1) := by decide +kernel
theorem dX5_settlesNow_0 : decode cX5_settlesNow 0 = .ok (.aload_n 0, 1) := by decide +kernel
theorem dX5_settlesNow_1 : decode cX5_settlesNow 1 = .ok (.invokevirtual 207, 3) := by decide +kernel
theorem dX5_settlesNow_4 : decode cX5_settlesNow 4 = .ok (.astore_n 1, 1) := by decide +kernel
theorem dX5_settlesNow_5 : decode cX5_settlesNow 5 = .ok (.aload_n 0, 1) := by decide +kernel
theorem dX5_settlesNow_6 : decode cX5_settlesNow 6 = .ok (.ldc 175, 2) := by decide +kernel
theorem dX5_settlesNow_8 : decode cX5_settlesNow 8 = .ok (.invokevirtual 176, 3) := by decide +kernel
theorem dX5_settlesNow_11 : decode cX5_settlesNow 11 = .ok (.pop, 1) := by decide +kernel
theorem dX5_settlesNow_12 : decode cX5_settlesNow 12 = .ok (.aload_n 0, 1) := by decide +kernel
theorem dX5_settlesNow_13 : decode cX5_settlesNow 13 = .ok (.getfield 34, 3) := by decide +kernel
theorem dX5_settlesNow_16 : decode cX5_settlesNow 16 = .ok (.iconst 2, 1) := by decide +kernel
theorem dX5_settlesNow_17 : decode cX5_settlesNow 17 = .ok (.iaload, 1) := by decide +kernel
theorem dX5_settlesNow_18 : decode cX5_settlesNow 18 = .ok (.aload_n 1, 1) := by decide +kernel
theorem dX5_settlesNow_19 : decode cX5_settlesNow 19 = .ok (.iconst 2, 1) := by decide +kernel
theorem dX5_settlesNow_20 : decode cX5_settlesNow 20 = .ok (.iaload, 1) := by decide +kernel
theorem dX5_settlesNow_21 : decode cX5_settlesNow 21 = .ok (.if_icmp .le 7, 3) := by decide +kernel
theorem dX5_settlesNow_24 : decode cX5_settlesNow 24 = .ok (.iconst (-1), 1) := by decide +kernel
theorem dX5_settlesNow_25 : decode cX5_settlesNow 25 = .ok (.goto 13, 3) := by decide +kernel
theorem dX5_settlesNow_28 : decode cX5_settlesNow 28 = .ok (.aload_n 0, 1) := by decide +kernel
theorem dX5_settlesNow_29 : decode cX5_settlesNow 29 = .ok (.getfield 34, 3) := by decide +kernel
theorem dX5_settlesNow_32 : decode cX5_settlesNow 32 = .ok (.iconst 0, 1) := by decide +kernel
theorem dX5_settlesNow_33 : decode cX5_settlesNow 33 = .ok (.iaload, 1) := by decide +kernel
theorem dX5_settlesNow_34 : decode cX5_settlesNow 34 = .ok (.aload_n 1, 1) := by decide +kernel
theorem dX5_settlesNow_35 : decode cX5_settlesNow 35 = .ok (.iconst 0, 1) := by decide +kernel
theorem dX5_settlesNow_36 : decode cX5_settlesNow 36 = .ok (.iaload, 1) := by decide +kernel
theorem dX5_settlesNow_37 : decode cX5_settlesNow 37 = .ok (.isub, 1) := by decide +kernel
theorem dX5_settlesNow_38 : decode cX5_settlesNow 38 = .ok (.istore_n 2, 1) := by decide +kernel
theorem dX5_settlesNow_39 : decode cX5_settlesNow 39 = .ok (.aload_n 0, 1) := by decide +kernel
theorem dX5_settlesNow_40 : decode cX5_settlesNow 40 = .ok (.aload_n 1, 1) := by decide +kernel
theorem dX5_settlesNow_41 : decode cX5_settlesNow 41 = .ok (.putfield 34, 3) := by decide +kernel
theorem dX5_settlesNow_44 : decode cX5_settlesNow 44 = .ok (.iload_n 2, 1) := by decide +kernel
theorem dX5_settlesNow_45 : decode cX5_settlesNow 45 = .ok (.ireturn, 1) := by decide +kernel
theorem dX5_settlesIn_0 : decode cX5_settlesIn 0 = .ok (.aload_n 0, 1) := by decide +kernel
theorem dX5_settlesIn_1 : decode cX5_settlesIn 1 = .ok (.iconst 0, 1) := by decide +kernel
theorem dX5_settlesIn_2 : decode cX5_settlesIn 2 = .ok (.putfield 50, 3) := by decide +kernel
theorem dX5_settlesIn_5 : decode cX5_settlesIn 5 = .ok (.aload_n 0, 1) := by decide +kernel
theorem dX5_settlesIn_6 : decode cX5_settlesIn 6 = .ok (.getfield 61, 3) := by decide +kernel
theorem dX5_settlesIn_9 : decode cX5_settlesIn 9 = .ok (.ifCond .eq 10, 3) := by decide +kernel
theorem dX5_settlesIn_12 : decode cX5_settlesIn 12 = .ok (.aload_n 0, 1) := by decide +kernel
theorem dX5_settlesIn_13 : decode cX5_settlesIn 13 = .ok (.invokevirtual 211, 3) := by decide +kernel
theorem dX5_settlesIn_16 : decode cX5_settlesIn 16 = .ok (.goto 8, 3) := by decide +kernel
theorem dX5_settlesIn_19 : decode cX5_settlesIn 19 = .ok (.aload_n 0, 1) := by decide +kernel
theorem dX5_settlesIn_20 : decode cX5_settlesIn 20 = .ok (.iconst 1, 1) := by decide +kernel
theorem dX5_settlesIn_21 : decode cX5_settlesIn 21 = .ok (.invokevirtual 69, 3) := by decide +kernel
theorem dX5_settlesIn_24 : decode cX5_settlesIn 24 = .ok (.ireturn, 1) := by decide +kernel
theorem dX5_longestWith_0 : decode cX5_longestWith 0 = .ok (.aload_n 0, 1) := by decide +kernel
theorem dX5_longestWith_1 : decode cX5_longestWith 1 = .ok (.iconst 0, 1) := by decide +kernel
theorem dX5_longestWith_2 : decode cX5_longestWith 2 = .ok (.putfield 50, 3) := by decide +kernel
theorem dX5_longestWith_5 : decode cX5_longestWith 5 = .ok (.aload_n 0, 1) := by decide +kernel
theorem dX5_longestWith_6 : decode cX5_longestWith 6 = .ok (.iload_n 1, 1) := by decide +kernel
theorem dX5_longestWith_7 : decode cX5_longestWith 7 = .ok (.invokevirtual 80, 3) := by decide +kernel
theorem dX5_longestWith_10 : decode cX5_longestWith 10 = .ok (.ifCond .ne 9, 3) := by decide +kernel
theorem dX5_longestWith_13 : decode cX5_longestWith 13 = .ok (.aload_n 0, 1) := by decide +kernel
theorem dX5_longestWith_14 : decode cX5_longestWith 14 = .ok (.iconst 1, 1) := by decide +kernel
theorem dX5_longestWith_15 : decode cX5_longestWith 15 = .ok (.invokevirtual 69, 3) := by decide +kernel
theorem dX5_longestWith_18 : decode cX5_longestWith 18 = .ok (.ireturn, 1) := by decide +kernel
theorem dX5_longestWith_19 : decode cX5_longestWith 19 = .ok (.aload_n 0, 1) := by decide +kernel
theorem dX5_longestWith_20 : decode cX5_longestWith 20 = .ok (.getfield 9, 3) := by decide +kernel
theorem dX5_longestWith_23 : decode cX5_longestWith 23 = .ok (.iload_n 1, 1) := by decide +kernel
theorem dX5_longestWith_24 : decode cX5_longestWith 24 = .ok (.iaload, 1) := by decide +kernel
theorem dX5_longestWith_25 : decode cX5_longestWith 25 = .ok (.iconst (-1), 1) := by decide +kernel
theorem dX5_longestWith_26 : decode cX5_longestWith 26 = .ok (.if_icmp .eq 13, 3) := by decide +kernel
theorem dX5_longestWith_29 : decode cX5_longestWith 29 = .ok (.iload_n 2, 1) := by decide +kernel
theorem dX5_longestWith_30 : decode cX5_longestWith 30 = .ok (.iconst 0, 1) := by decide +kernel
theorem dX5_longestWith_31 : decode cX5_longestWith 31 = .ok (.bipush 20, 2) := by decide +kernel
theorem dX5_longestWith_33 : decode cX5_longestWith 33 = .ok (.invokestatic 54, 3) := by decide +kernel
theorem dX5_longestWith_36 : decode cX5_longestWith 36 = .ok (.ifCond .ne 9, 3) := by decide +kernel
theorem dX5_longestWith_39 : decode cX5_longestWith 39 = .ok (.aload_n 0, 1) := by decide +kernel
theorem dX5_longestWith_40 : decode cX5_longestWith 40 = .ok (.iconst 2, 1) := by decide +kernel
theorem dX5_longestWith_41 : decode cX5_longestWith 41 = .ok (.invokevirtual 69, 3) := by decide +kernel
theorem dX5_longestWith_44 : decode cX5_longestWith 44 = .ok (.ireturn, 1) := by decide +kernel
theorem dX5_longestWith_45 : decode cX5_longestWith 45 = .ok (.aload_n 0, 1) := by decide +kernel
theorem dX5_longestWith_46 : decode cX5_longestWith 46 = .ok (.getfield 25, 3) := by decide +kernel
theorem dX5_longestWith_49 : decode cX5_longestWith 49 = .ok (.iload_n 1, 1) := by decide +kernel
theorem dX5_longestWith_50 : decode cX5_longestWith 50 = .ok (.iaload, 1) := by decide +kernel
theorem dX5_longestWith_51 : decode cX5_longestWith 51 = .ok (.istore_n 3, 1) := by decide +kernel
theorem dX5_longestWith_52 : decode cX5_longestWith 52 = .ok (.aload_n 0, 1) := by decide +kernel
theorem dX5_longestWith_53 : decode cX5_longestWith 53 = .ok (.getfield 25, 3) := by decide +kernel
theorem dX5_longestWith_56 : decode cX5_longestWith 56 = .ok (.iload_n 1, 1) := by decide +kernel
theorem dX5_longestWith_57 : decode cX5_longestWith 57 = .ok (.iload_n 2, 1) := by decide +kernel
theorem dX5_longestWith_58 : decode cX5_longestWith 58 = .ok (.iastore, 1) := by decide +kernel
theorem dX5_longestWith_59 : decode cX5_longestWith 59 = .ok (.aload_n 0, 1) := by decide +kernel
theorem dX5_longestWith_60 : decode cX5_longestWith 60 = .ok (.invokevirtual 134, 3) := by decide +kernel
theorem dX5_longestWith_63 : decode cX5_longestWith 63 = .ok (.istore 4, 2) := by decide +kernel
theorem dX5_longestWith_65 : decode cX5_longestWith 65 = .ok (.aload_n 0, 1) := by decide +kernel
theorem dX5_longestWith_66 : decode cX5_longestWith 66 = .ok (.getfield 25, 3) := by decide +kernel
theorem dX5_longestWith_69 : decode cX5_longestWith 69 = .ok (.iload_n 1, 1) := by decide +kernel
theorem dX5_longestWith_70 : decode cX5_longestWith 70 = .ok (.iload_n 3, 1) := by decide +kernel
theorem dX5_longestWith_71 : decode cX5_longestWith 71 = .ok (.iastore, 1) := by decide +kernel
theorem dX5_longestWith_72 : decode cX5_longestWith 72 = .ok (.iload 4, 2) := by decide +kernel
theorem dX5_longestWith_74 : decode cX5_longestWith 74 = .ok (.ireturn, 1) := by decide +kernel
theorem dX5_meanArrival_0 : decode cX5_meanArrival 0 = .ok (.aload_n 0, 1) := by decide +kernel
theorem dX5_meanArrival_1 : decode cX5_meanArrival 1 = .ok (.iconst 0, 1) := by decide +kernel
theorem dX5_meanArrival_2 : decode cX5_meanArrival 2 = .ok (.putfield 50, 3) := by decide +kernel
theorem dX5_meanArrival_5 : decode cX5_meanArrival 5 = .ok (.aload_n 0, 1) := by decide +kernel
theorem dX5_meanArrival_6 : decode cX5_meanArrival 6 = .ok (.invokevirtual 131, 3) := by decide +kernel
theorem dX5_meanArrival_9 : decode cX5_meanArrival 9 = .ok (.iconst 0, 1) := by decide +kernel
theorem dX5_meanArrival_10 : decode cX5_meanArrival 10 = .ok (.istore_n 1, 1) := by decide +kernel
theorem dX5_meanArrival_11 : decode cX5_meanArrival 11 = .ok (.iconst 0, 1) := by decide +kernel
theorem dX5_meanArrival_12 : decode cX5_meanArrival 12 = .ok (.istore_n 2, 1) := by decide +kernel
theorem dX5_meanArrival_13 : decode cX5_meanArrival 13 = .ok (.iconst 0, 1) := by decide +kernel
theorem dX5_meanArrival_14 : decode cX5_meanArrival 14 = .ok (.istore_n 3, 1) := by decide +kernel
theorem dX5_meanArrival_15 : decode cX5_meanArrival 15 = .ok (.iload_n 3, 1) := by decide +kernel
theorem dX5_meanArrival_16 : decode cX5_meanArrival 16 = .ok (.bipush 24, 2) := by decide +kernel
theorem dX5_meanArrival_18 : decode cX5_meanArrival 18 = .ok (.if_icmp .ge 43, 3) := by decide +kernel
theorem dX5_meanArrival_21 : decode cX5_meanArrival 21 = .ok (.aload_n 0, 1) := by decide +kernel
theorem dX5_meanArrival_22 : decode cX5_meanArrival 22 = .ok (.iload_n 3, 1) := by decide +kernel
theorem dX5_meanArrival_23 : decode cX5_meanArrival 23 = .ok (.invokevirtual 116, 3) := by decide +kernel
theorem dX5_meanArrival_26 : decode cX5_meanArrival 26 = .ok (.iconst (-1), 1) := by decide +kernel
theorem dX5_meanArrival_27 : decode cX5_meanArrival 27 = .ok (.if_icmp .eq 28, 3) := by decide +kernel
theorem dX5_meanArrival_30 : decode cX5_meanArrival 30 = .ok (.aload_n 0, 1) := by decide +kernel
theorem dX5_meanArrival_31 : decode cX5_meanArrival 31 = .ok (.getfield 40, 3) := by decide +kernel
theorem dX5_meanArrival_34 : decode cX5_meanArrival 34 = .ok (.iload_n 3, 1) := by decide +kernel
theorem dX5_meanArrival_35 : decode cX5_meanArrival 35 = .ok (.iaload, 1) := by decide +kernel
theorem dX5_meanArrival_36 : decode cX5_meanArrival 36 = .ok (.iconst (-1), 1) := by decide +kernel
theorem dX5_meanArrival_37 : decode cX5_meanArrival 37 = .ok (.if_icmp .ne 6, 3) := by decide +kernel
theorem dX5_meanArrival_40 : decode cX5_meanArrival 40 = .ok (.goto 15, 3) := by decide +kernel
theorem dX5_meanArrival_43 : decode cX5_meanArrival 43 = .ok (.iload_n 1, 1) := by decide +kernel
theorem dX5_meanArrival_44 : decode cX5_meanArrival 44 = .ok (.aload_n 0, 1) := by decide +kernel
theorem dX5_meanArrival_45 : decode cX5_meanArrival 45 = .ok (.getfield 40, 3) := by decide +kernel
theorem dX5_meanArrival_48 : decode cX5_meanArrival 48 = .ok (.iload_n 3, 1) := by decide +kernel
theorem dX5_meanArrival_49 : decode cX5_meanArrival 49 = .ok (.iaload, 1) := by decide +kernel
theorem dX5_meanArrival_50 : decode cX5_meanArrival 50 = .ok (.iadd, 1) := by decide +kernel
theorem dX5_meanArrival_51 : decode cX5_meanArrival 51 = .ok (.istore_n 1, 1) := by decide +kernel
theorem dX5_meanArrival_52 : decode cX5_meanArrival 52 = .ok (.iinc 2 1, 3) := by decide +kernel
theorem dX5_meanArrival_55 : decode cX5_meanArrival 55 = .ok (.iinc 3 1, 3) := by decide +kernel
theorem dX5_meanArrival_58 : decode cX5_meanArrival 58 = .ok (.goto (-43), 3) := by decide +kernel
theorem dX5_meanArrival_61 : decode cX5_meanArrival 61 = .ok (.iload_n 2, 1) := by decide +kernel
theorem dX5_meanArrival_62 : decode cX5_meanArrival 62 = .ok (.ifCond .ne 7, 3) := by decide +kernel
theorem dX5_meanArrival_65 : decode cX5_meanArrival 65 = .ok (.dconst 0, 1) := by decide +kernel
theorem dX5_meanArrival_66 : decode cX5_meanArrival 66 = .ok (.goto 8, 3) := by decide +kernel
theorem dX5_meanArrival_69 : decode cX5_meanArrival 69 = .ok (.iload_n 1, 1) := by decide +kernel
theorem dX5_meanArrival_70 : decode cX5_meanArrival 70 = .ok (.i2d, 1) := by decide +kernel
theorem dX5_meanArrival_71 : decode cX5_meanArrival 71 = .ok (.iload_n 2, 1) := by decide +kernel
theorem dX5_meanArrival_72 : decode cX5_meanArrival 72 = .ok (.i2d, 1) := by decide +kernel
theorem dX5_meanArrival_73 : decode cX5_meanArrival 73 = .ok (.ddiv, 1) := by decide +kernel
theorem dX5_meanArrival_74 : decode cX5_meanArrival 74 = .ok (.dreturn, 1) := by decide +kernel
theorem dX5_digest_0 : decode cX5_digest 0 = .ok (.aload_n 0, 1) := by decide +kernel
theorem dX5_digest_1 : decode cX5_digest 1 = .ok (.iconst 0, 1) := by decide +kernel
theorem dX5_digest_2 : decode cX5_digest 2 = .ok (.putfield 50, 3) := by decide +kernel
theorem dX5_digest_5 : decode cX5_digest 5 = .ok (.aload_n 0, 1) := by decide +kernel
theorem dX5_digest_6 : decode cX5_digest 6 = .ok (.invokevirtual 110, 3) := by decide +kernel
theorem dX5_digest_9 : decode cX5_digest 9 = .ok (.ldc2_w 214, 3) := by decide +kernel
theorem dX5_digest_12 : decode cX5_digest 12 = .ok (.aload_n 0, 1) := by decide +kernel
theorem dX5_digest_13 : decode cX5_digest 13 = .ok (.getfield 58, 3) := by decide +kernel
theorem dX5_digest_16 : decode cX5_digest 16 = .ok (.i2l, 1) := by decide +kernel
theorem dX5_digest_17 : decode cX5_digest 17 = .ok (.ladd, 1) := by decide +kernel
theorem dX5_digest_18 : decode cX5_digest 18 = .ok (.ldc2_w 216, 3) := by decide +kernel
theorem dX5_digest_21 : decode cX5_digest 21 = .ok (.lmul, 1) := by decide +kernel
theorem dX5_digest_22 : decode cX5_digest 22 = .ok (.aload_n 0, 1) := by decide +kernel
theorem dX5_digest_23 : decode cX5_digest 23 = .ok (.getfield 97, 3) := by decide +kernel
theorem dX5_digest_26 : decode cX5_digest 26 = .ok (.i2l, 1) := by decide +kernel
theorem dX5_digest_27 : decode cX5_digest 27 = .ok (.ladd, 1) := by decide +kernel
theorem dX5_digest_28 : decode cX5_digest 28 = .ok (.ldc2_w 216, 3) := by decide +kernel
theorem dX5_digest_31 : decode cX5_digest 31 = .ok (.lmul, 1) := by decide +kernel
theorem dX5_digest_32 : decode cX5_digest 32 = .ok (.aload_n 0, 1) := by decide +kernel
theorem dX5_digest_33 : decode cX5_digest 33 = .ok (.invokevirtual 134, 3) := by decide +kernel
theorem dX5_digest_36 : decode cX5_digest 36 = .ok (.i2l, 1) := by decide +kernel
theorem dX5_digest_37 : decode cX5_digest 37 = .ok (.ladd, 1) := by decide +kernel
theorem dX5_digest_38 : decode cX5_digest 38 = .ok (.ldc2_w 216, 3) := by decide +kernel
theorem dX5_digest_41 : decode cX5_digest 41 = .ok (.lmul, 1) := by decide +kernel
theorem dX5_digest_42 : decode cX5_digest 42 = .ok (.aload_n 0, 1) := by decide +kernel
theorem dX5_digest_43 : decode cX5_digest 43 = .ok (.getfield 61, 3) := by decide +kernel
theorem dX5_digest_46 : decode cX5_digest 46 = .ok (.ifCond .eq 7, 3) := by decide +kernel
theorem dX5_digest_49 : decode cX5_digest 49 = .ok (.iconst 1, 1) := by decide +kernel
theorem dX5_digest_50 : decode cX5_digest 50 = .ok (.goto 4, 3) := by decide +kernel
theorem dX5_digest_53 : decode cX5_digest 53 = .ok (.iconst 0, 1) := by decide +kernel
theorem dX5_digest_54 : decode cX5_digest 54 = .ok (.i2l, 1) := by decide +kernel
theorem dX5_digest_55 : decode cX5_digest 55 = .ok (.ladd, 1) := by decide +kernel
theorem dX5_digest_56 : decode cX5_digest 56 = .ok (.lstore_n 1, 1) := by decide +kernel
theorem dX5_digest_57 : decode cX5_digest 57 = .ok (.iconst 0, 1) := by decide +kernel
theorem dX5_digest_58 : decode cX5_digest 58 = .ok (.istore_n 3, 1) := by decide +kernel
theorem dX5_digest_59 : decode cX5_digest 59 = .ok (.iload_n 3, 1) := by decide +kernel
theorem dX5_digest_60 : decode cX5_digest 60 = .ok (.bipush 6, 2) := by decide +kernel
theorem dX5_digest_62 : decode cX5_digest 62 = .ok (.if_icmp .ge 22, 3) := by decide +kernel
theorem dX5_digest_65 : decode cX5_digest 65 = .ok (.lload_n 1, 1) := by decide +kernel
theorem dX5_digest_66 : decode cX5_digest 66 = .ok (.ldc2_w 216, 3) := by decide +kernel
theorem dX5_digest_69 : decode cX5_digest 69 = .ok (.lmul, 1) := by decide +kernel
theorem dX5_digest_70 : decode cX5_digest 70 = .ok (.aload_n 0, 1) := by decide +kernel
theorem dX5_digest_71 : decode cX5_digest 71 = .ok (.iload_n 3, 1) := by decide +kernel
theorem dX5_digest_72 : decode cX5_digest 72 = .ok (.invokevirtual 198, 3) := by decide +kernel
theorem dX5_digest_75 : decode cX5_digest 75 = .ok (.i2l, 1) := by decide +kernel
theorem dX5_digest_76 : decode cX5_digest 76 = .ok (.ladd, 1) := by decide +kernel
theorem dX5_digest_77 : decode cX5_digest 77 = .ok (.lstore_n 1, 1) := by decide +kernel
theorem dX5_digest_78 : decode cX5_digest 78 = .ok (.iinc 3 1, 3) := by decide +kernel
theorem dX5_digest_81 : decode cX5_digest 81 = .ok (.goto (-22), 3) := by decide +kernel
theorem dX5_digest_84 : decode cX5_digest 84 = .ok (.iconst 0, 1) := by decide +kernel
theorem dX5_digest_85 : decode cX5_digest 85 = .ok (.istore_n 3, 1) := by decide +kernel
theorem dX5_digest_86 : decode cX5_digest 86 = .ok (.iload_n 3, 1) := by decide +kernel
theorem dX5_digest_87 : decode cX5_digest 87 = .ok (.iconst 2, 1) := by decide +kernel
theorem dX5_digest_88 : decode cX5_digest 88 = .ok (.aload_n 0, 1) := by decide +kernel
theorem dX5_digest_89 : decode cX5_digest 89 = .ok (.getfield 97, 3) := by decide +kernel
theorem dX5_digest_92 : decode cX5_digest 92 = .ok (.imul, 1) := by decide +kernel
theorem dX5_digest_93 : decode cX5_digest 93 = .ok (.if_icmp .ge 23, 3) := by decide +kernel
theorem dX5_digest_96 : decode cX5_digest 96 = .ok (.lload_n 1, 1) := by decide +kernel
theorem dX5_digest_97 : decode cX5_digest 97 = .ok (.ldc2_w 216, 3) := by decide +kernel
theorem dX5_digest_100 : decode cX5_digest 100 = .ok (.lmul, 1) := by decide +kernel
theorem dX5_digest_101 : decode cX5_digest 101 = .ok (.aload_n 0, 1) := by decide +kernel
theorem dX5_digest_102 : decode cX5_digest 102 = .ok (.getfield 37, 3) := by decide +kernel
theorem dX5_digest_105 : decode cX5_digest 105 = .ok (.iload_n 3, 1) := by decide +kernel
theorem dX5_digest_106 : decode cX5_digest 106 = .ok (.iaload, 1) := by decide +kernel
theorem dX5_digest_107 : decode cX5_digest 107 = .ok (.i2l, 1) := by decide +kernel
theorem dX5_digest_108 : decode cX5_digest 108 = .ok (.ladd, 1) := by decide +kernel
theorem dX5_digest_109 : decode cX5_digest 109 = .ok (.lstore_n 1, 1) := by decide +kernel
theorem dX5_digest_110 : decode cX5_digest 110 = .ok (.iinc 3 1, 3) := by decide +kernel
theorem dX5_digest_113 : decode cX5_digest 113 = .ok (.goto (-27), 3) := by decide +kernel
theorem dX5_digest_116 : decode cX5_digest 116 = .ok (.iconst 0, 1) := by decide +kernel
theorem dX5_digest_117 : decode cX5_digest 117 = .ok (.istore_n 3, 1) := by decide +kernel
theorem dX5_digest_118 : decode cX5_digest 118 = .ok (.iload_n 3, 1) := by decide +kernel
theorem dX5_digest_119 : decode cX5_digest 119 = .ok (.bipush 6, 2) := by decide +kernel
theorem dX5_digest_121 : decode cX5_digest 121 = .ok (.if_icmp .ge 22, 3) := by decide +kernel
theorem dX5_digest_124 : decode cX5_digest 124 = .ok (.lload_n 1, 1) := by decide +kernel
theorem dX5_digest_125 : decode cX5_digest 125 = .ok (.ldc2_w 216, 3) := by decide +kernel
theorem dX5_digest_128 : decode cX5_digest 128 = .ok (.lmul, 1) := by decide +kernel
theorem dX5_digest_129 : decode cX5_digest 129 = .ok (.aload_n 0, 1) := by decide +kernel
theorem dX5_digest_130 : decode cX5_digest 130 = .ok (.iload_n 3, 1) := by decide +kernel
theorem dX5_digest_131 : decode cX5_digest 131 = .ok (.invokevirtual 138, 3) := by decide +kernel
theorem dX5_digest_134 : decode cX5_digest 134 = .ok (.i2l, 1) := by decide +kernel
theorem dX5_digest_135 : decode cX5_digest 135 = .ok (.ladd, 1) := by decide +kernel
theorem dX5_digest_136 : decode cX5_digest 136 = .ok (.lstore_n 1, 1) := by decide +kernel
theorem dX5_digest_137 : decode cX5_digest 137 = .ok (.iinc 3 1, 3) := by decide +kernel
theorem dX5_digest_140 : decode cX5_digest 140 = .ok (.goto (-22), 3) := by decide +kernel
theorem dX5_digest_143 : decode cX5_digest 143 = .ok (.iconst 0, 1) := by decide +kernel
theorem dX5_digest_144 : decode cX5_digest 144 = .ok (.istore_n 3, 1) := by decide +kernel
theorem dX5_digest_145 : decode cX5_digest 145 = .ok (.iload_n 3, 1) := by decide +kernel
theorem dX5_digest_146 : decode cX5_digest 146 = .ok (.bipush 24, 2) := by decide +kernel
theorem dX5_digest_148 : decode cX5_digest 148 = .ok (.if_icmp .ge 72, 3) := by decide +kernel
theorem dX5_digest_151 : decode cX5_digest 151 = .ok (.lload_n 1, 1) := by decide +kernel
theorem dX5_digest_152 : decode cX5_digest 152 = .ok (.ldc2_w 216, 3) := by decide +kernel
theorem dX5_digest_155 : decode cX5_digest 155 = .ok (.lmul, 1) := by decide +kernel
theorem dX5_digest_156 : decode cX5_digest 156 = .ok (.aload_n 0, 1) := by decide +kernel
theorem dX5_digest_157 : decode cX5_digest 157 = .ok (.getfield 40, 3) := by decide +kernel
theorem dX5_digest_160 : decode cX5_digest 160 = .ok (.iload_n 3, 1) := by decide +kernel
theorem dX5_digest_161 : decode cX5_digest 161 = .ok (.iaload, 1) := by decide +kernel
theorem dX5_digest_162 : decode cX5_digest 162 = .ok (.i2l, 1) := by decide +kernel
theorem dX5_digest_163 : decode cX5_digest 163 = .ok (.ladd, 1) := by decide +kernel
theorem dX5_digest_164 : decode cX5_digest 164 = .ok (.ldc2_w 216, 3) := by decide +kernel
theorem dX5_digest_167 : decode cX5_digest 167 = .ok (.lmul, 1) := by decide +kernel
theorem dX5_digest_168 : decode cX5_digest 168 = .ok (.aload_n 0, 1) := by decide +kernel
theorem dX5_digest_169 : decode cX5_digest 169 = .ok (.iload_n 3, 1) := by decide +kernel
theorem dX5_digest_170 : decode cX5_digest 170 = .ok (.invokevirtual 104, 3) := by decide +kernel
theorem dX5_digest_173 : decode cX5_digest 173 = .ok (.i2l, 1) := by decide +kernel
theorem dX5_digest_174 : decode cX5_digest 174 = .ok (.ladd, 1) := by decide +kernel
theorem dX5_digest_175 : decode cX5_digest 175 = .ok (.lstore_n 1, 1) := by decide +kernel
theorem dX5_digest_176 : decode cX5_digest 176 = .ok (.iconst 0, 1) := by decide +kernel
theorem dX5_digest_177 : decode cX5_digest 177 = .ok (.istore 4, 2) := by decide +kernel
theorem dX5_digest_179 : decode cX5_digest 179 = .ok (.iload 4, 2) := by decide +kernel
theorem dX5_digest_181 : decode cX5_digest 181 = .ok (.iconst 4, 1) := by decide +kernel
theorem dX5_digest_182 : decode cX5_digest 182 = .ok (.if_icmp .ge 32, 3) := by decide +kernel
theorem dX5_digest_185 : decode cX5_digest 185 = .ok (.lload_n 1, 1) := by decide +kernel
theorem dX5_digest_186 : decode cX5_digest 186 = .ok (.ldc2_w 216, 3) := by decide +kernel
theorem dX5_digest_189 : decode cX5_digest 189 = .ok (.lmul, 1) := by decide +kernel
theorem dX5_digest_190 : decode cX5_digest 190 = .ok (.aload_n 0, 1) := by decide +kernel
theorem dX5_digest_191 : decode cX5_digest 191 = .ok (.getfield 34, 3) := by decide +kernel
theorem dX5_digest_194 : decode cX5_digest 194 = .ok (.bipush 6, 2) := by decide +kernel
theorem dX5_digest_196 : decode cX5_digest 196 = .ok (.iload 4, 2) := by decide +kernel
theorem dX5_digest_198 : decode cX5_digest 198 = .ok (.bipush 24, 2) := by decide +kernel
theorem dX5_digest_200 : decode cX5_digest 200 = .ok (.imul, 1) := by decide +kernel
theorem dX5_digest_201 : decode cX5_digest 201 = .ok (.iadd, 1) := by decide +kernel
theorem dX5_digest_202 : decode cX5_digest 202 = .ok (.iload_n 3, 1) := by decide +kernel
theorem dX5_digest_203 : decode cX5_digest 203 = .ok (.iadd, 1) := by decide +kernel
theorem dX5_digest_204 : decode cX5_digest 204 = .ok (.iaload, 1) := by decide +kernel
theorem dX5_digest_205 : decode cX5_digest 205 = .ok (.i2l, 1) := by decide +kernel
theorem dX5_digest_206 : decode cX5_digest 206 = .ok (.ladd, 1) := by decide +kernel
theorem dX5_digest_207 : decode cX5_digest 207 = .ok (.lstore_n 1, 1) := by decide +kernel
theorem dX5_digest_208 : decode cX5_digest 208 = .ok (.iinc 4 1, 3) := by decide +kernel
theorem dX5_digest_211 : decode cX5_digest 211 = .ok (.goto (-32), 3) := by decide +kernel
theorem dX5_digest_214 : decode cX5_digest 214 = .ok (.iinc 3 1, 3) := by decide +kernel
theorem dX5_digest_217 : decode cX5_digest 217 = .ok (.goto (-72), 3) := by decide +kernel
theorem dX5_digest_220 : decode cX5_digest 220 = .ok (.iconst 0, 1) := by decide +kernel
theorem dX5_digest_221 : decode cX5_digest 221 = .ok (.istore_n 3, 1) := by decide +kernel
theorem dX5_digest_222 : decode cX5_digest 222 = .ok (.iload_n 3, 1) := by decide +kernel
theorem dX5_digest_223 : decode cX5_digest 223 = .ok (.aload_n 0, 1) := by decide +kernel
theorem dX5_digest_224 : decode cX5_digest 224 = .ok (.getfield 58, 3) := by decide +kernel
theorem dX5_digest_227 : decode cX5_digest 227 = .ok (.if_icmp .ge 26, 3) := by decide +kernel
theorem dX5_digest_230 : decode cX5_digest 230 = .ok (.lload_n 1, 1) := by decide +kernel
theorem dX5_digest_231 : decode cX5_digest 231 = .ok (.ldc2_w 216, 3) := by decide +kernel
theorem dX5_digest_234 : decode cX5_digest 234 = .ok (.lmul, 1) := by decide +kernel
theorem dX5_digest_235 : decode cX5_digest 235 = .ok (.aload_n 0, 1) := by decide +kernel
theorem dX5_digest_236 : decode cX5_digest 236 = .ok (.getfield 34, 3) := by decide +kernel
theorem dX5_digest_239 : decode cX5_digest 239 = .ok (.bipush 102, 2) := by decide +kernel
theorem dX5_digest_241 : decode cX5_digest 241 = .ok (.iload_n 3, 1) := by decide +kernel
theorem dX5_digest_242 : decode cX5_digest 242 = .ok (.iadd, 1) := by decide +kernel
theorem dX5_digest_243 : decode cX5_digest 243 = .ok (.iaload, 1) := by decide +kernel
theorem dX5_digest_244 : decode cX5_digest 244 = .ok (.i2l, 1) := by decide +kernel
theorem dX5_digest_245 : decode cX5_digest 245 = .ok (.ladd, 1) := by decide +kernel
theorem dX5_digest_246 : decode cX5_digest 246 = .ok (.lstore_n 1, 1) := by decide +kernel
theorem dX5_digest_247 : decode cX5_digest 247 = .ok (.iinc 3 1, 3) := by decide +kernel
theorem dX5_digest_250 : decode cX5_digest 250 = .ok (.goto (-28), 3) := by decide +kernel
theorem dX5_digest_253 : decode cX5_digest 253 = .ok (.lload_n 1, 1) := by decide +kernel
theorem dX5_digest_254 : decode cX5_digest 254 = .ok (.ldc2_w 216, 3) := by decide +kernel
theorem dX5_digest_257 : decode cX5_digest 257 = .ok (.lmul, 1) := by decide +kernel
theorem dX5_digest_258 : decode cX5_digest 258 = .ok (.aload_n 0, 1) := by decide +kernel
theorem dX5_digest_259 : decode cX5_digest 259 = .ok (.getfield 34, 3) := by decide +kernel
theorem dX5_digest_262 : decode cX5_digest 262 = .ok (.iconst 5, 1) := by decide +kernel
theorem dX5_digest_263 : decode cX5_digest 263 = .ok (.iaload, 1) := by decide +kernel
theorem dX5_digest_264 : decode cX5_digest 264 = .ok (.i2l, 1) := by decide +kernel
theorem dX5_digest_265 : decode cX5_digest 265 = .ok (.ladd, 1) := by decide +kernel
theorem dX5_digest_266 : decode cX5_digest 266 = .ok (.lstore_n 1, 1) := by decide +kernel
theorem dX5_digest_267 : decode cX5_digest 267 = .ok (.iconst 0, 1) := by decide +kernel
theorem dX5_digest_268 : decode cX5_digest 268 = .ok (.istore_n 3, 1) := by decide +kernel
theorem dX5_digest_269 : decode cX5_digest 269 = .ok (.iload_n 3, 1) := by decide +kernel
theorem dX5_digest_270 : decode cX5_digest 270 = .ok (.iconst 3, 1) := by decide +kernel
theorem dX5_digest_271 : decode cX5_digest 271 = .ok (.aload_n 0, 1) := by decide +kernel
theorem dX5_digest_272 : decode cX5_digest 272 = .ok (.getfield 34, 3) := by decide +kernel
theorem dX5_digest_275 : decode cX5_digest 275 = .ok (.iconst 5, 1) := by decide +kernel
theorem dX5_digest_276 : decode cX5_digest 276 = .ok (.iaload, 1) := by decide +kernel
theorem dX5_digest_277 : decode cX5_digest 277 = .ok (.imul, 1) := by decide +kernel
theorem dX5_digest_278 : decode cX5_digest 278 = .ok (.if_icmp .ge 27, 3) := by decide +kernel
theorem dX5_digest_281 : decode cX5_digest 281 = .ok (.lload_n 1, 1) := by decide +kernel
theorem dX5_digest_282 : decode cX5_digest 282 = .ok (.ldc2_w 216, 3) := by decide +kernel
theorem dX5_digest_285 : decode cX5_digest 285 = .ok (.lmul, 1) := by decide +kernel
theorem dX5_digest_286 : decode cX5_digest 286 = .ok (.aload_n 0, 1) := by decide +kernel
theorem dX5_digest_287 : decode cX5_digest 287 = .ok (.getfield 34, 3) := by decide +kernel
theorem dX5_digest_290 : decode cX5_digest 290 = .ok (.sipush 222, 3) := by decide +kernel
theorem dX5_digest_293 : decode cX5_digest 293 = .ok (.iload_n 3, 1) := by decide +kernel
theorem dX5_digest_294 : decode cX5_digest 294 = .ok (.iadd, 1) := by decide +kernel
theorem dX5_digest_295 : decode cX5_digest 295 = .ok (.iaload, 1) := by decide +kernel
theorem dX5_digest_296 : decode cX5_digest 296 = .ok (.i2l, 1) := by decide +kernel
theorem dX5_digest_297 : decode cX5_digest 297 = .ok (.ladd, 1) := by decide +kernel
theorem dX5_digest_298 : decode cX5_digest 298 = .ok (.lstore_n 1, 1) := by decide +kernel
theorem dX5_digest_299 : decode cX5_digest 299 = .ok (.iinc 3 1, 3) := by decide +kernel
theorem dX5_digest_302 : decode cX5_digest 302 = .ok (.goto (-33), 3) := by decide +kernel
theorem dX5_digest_305 : decode cX5_digest 305 = .ok (.aload_n 0, 1) := by decide +kernel
theorem dX5_digest_306 : decode cX5_digest 306 = .ok (.getfield 61, 3) := by decide +kernel
theorem dX5_digest_309 : decode cX5_digest 309 = .ok (.ifCond .eq 17, 3) := by decide +kernel
theorem dX5_digest_312 : decode cX5_digest 312 = .ok (.lload_n 1, 1) := by decide +kernel
theorem dX5_digest_313 : decode cX5_digest 313 = .ok (.ldc2_w 216, 3) := by decide +kernel
theorem dX5_digest_316 : decode cX5_digest 316 = .ok (.lmul, 1) := by decide +kernel
theorem dX5_digest_317 : decode cX5_digest 317 = .ok (.aload_n 0, 1) := by decide +kernel
theorem dX5_digest_318 : decode cX5_digest 318 = .ok (.invokevirtual 211, 3) := by decide +kernel
theorem dX5_digest_321 : decode cX5_digest 321 = .ok (.i2l, 1) := by decide +kernel
theorem dX5_digest_322 : decode cX5_digest 322 = .ok (.ladd, 1) := by decide +kernel
theorem dX5_digest_323 : decode cX5_digest 323 = .ok (.goto 4, 3) := by decide +kernel
theorem dX5_digest_326 : decode cX5_digest 326 = .ok (.lload_n 1, 1) := by decide +kernel
theorem dX5_digest_327 : decode cX5_digest 327 = .ok (.lreturn, 1) := by decide +kernel
theorem dJ6_bitCount_0f7a4_0 : decode cJ6_bitCount_0f7a4 0 = .ok (.iload_n 0, 1) := by decide +kernel
theorem dJ6_bitCount_0f7a4_1 : decode cJ6_bitCount_0f7a4 1 = .ok (.iload_n 0, 1) := by decide +kernel
theorem dJ6_bitCount_0f7a4_2 : decode cJ6_bitCount_0f7a4 2 = .ok (.iconst 1, 1) := by decide +kernel
theorem dJ6_bitCount_0f7a4_3 : decode cJ6_bitCount_0f7a4 3 = .ok (.iushr, 1) := by decide +kernel
theorem dJ6_bitCount_0f7a4_4 : decode cJ6_bitCount_0f7a4 4 = .ok (.ldc_w 265, 3) := by decide +kernel
theorem dJ6_bitCount_0f7a4_7 : decode cJ6_bitCount_0f7a4 7 = .ok (.iand, 1) := by decide +kernel
theorem dJ6_bitCount_0f7a4_8 : decode cJ6_bitCount_0f7a4 8 = .ok (.isub, 1) := by decide +kernel
theorem dJ6_bitCount_0f7a4_9 : decode cJ6_bitCount_0f7a4 9 = .ok (.istore_n 0, 1) := by decide +kernel
theorem dJ6_bitCount_0f7a4_10 : decode cJ6_bitCount_0f7a4 10 = .ok (.iload_n 0, 1) := by decide +kernel
theorem dJ6_bitCount_0f7a4_11 : decode cJ6_bitCount_0f7a4 11 = .ok (.ldc_w 266, 3) := by decide +kernel
theorem dJ6_bitCount_0f7a4_14 : decode cJ6_bitCount_0f7a4 14 = .ok (.iand, 1) := by decide +kernel
theorem dJ6_bitCount_0f7a4_15 : decode cJ6_bitCount_0f7a4 15 = .ok (.iload_n 0, 1) := by decide +kernel
theorem dJ6_bitCount_0f7a4_16 : decode cJ6_bitCount_0f7a4 16 = .ok (.iconst 2, 1) := by decide +kernel
theorem dJ6_bitCount_0f7a4_17 : decode cJ6_bitCount_0f7a4 17 = .ok (.iushr, 1) := by decide +kernel
theorem dJ6_bitCount_0f7a4_18 : decode cJ6_bitCount_0f7a4 18 = .ok (.ldc_w 266, 3) := by decide +kernel
theorem dJ6_bitCount_0f7a4_21 : decode cJ6_bitCount_0f7a4 21 = .ok (.iand, 1) := by decide +kernel
theorem dJ6_bitCount_0f7a4_22 : decode cJ6_bitCount_0f7a4 22 = .ok (.iadd, 1) := by decide +kernel
theorem dJ6_bitCount_0f7a4_23 : decode cJ6_bitCount_0f7a4 23 = .ok (.istore_n 0, 1) := by decide +kernel
theorem dJ6_bitCount_0f7a4_24 : decode cJ6_bitCount_0f7a4 24 = .ok (.iload_n 0, 1) := by decide +kernel
theorem dJ6_bitCount_0f7a4_25 : decode cJ6_bitCount_0f7a4 25 = .ok (.iload_n 0, 1) := by decide +kernel
theorem dJ6_bitCount_0f7a4_26 : decode cJ6_bitCount_0f7a4 26 = .ok (.iconst 4, 1) := by decide +kernel
theorem dJ6_bitCount_0f7a4_27 : decode cJ6_bitCount_0f7a4 27 = .ok (.iushr, 1) := by decide +kernel
theorem dJ6_bitCount_0f7a4_28 : decode cJ6_bitCount_0f7a4 28 = .ok (.iadd, 1) := by decide +kernel
theorem dJ6_bitCount_0f7a4_29 : decode cJ6_bitCount_0f7a4 29 = .ok (.ldc_w 267, 3) := by decide +kernel
theorem dJ6_bitCount_0f7a4_32 : decode cJ6_bitCount_0f7a4 32 = .ok (.iand, 1) := by decide +kernel
theorem dJ6_bitCount_0f7a4_33 : decode cJ6_bitCount_0f7a4 33 = .ok (.istore_n 0, 1) := by decide +kernel
theorem dJ6_bitCount_0f7a4_34 : decode cJ6_bitCount_0f7a4 34 = .ok (.iload_n 0, 1) := by decide +kernel
theorem dJ6_bitCount_0f7a4_35 : decode cJ6_bitCount_0f7a4 35 = .ok (.iload_n 0, 1) := by decide +kernel
theorem dJ6_bitCount_0f7a4_36 : decode cJ6_bitCount_0f7a4 36 = .ok (.bipush 8, 2) := by decide +kernel
theorem dJ6_bitCount_0f7a4_38 : decode cJ6_bitCount_0f7a4 38 = .ok (.iushr, 1) := by decide +kernel
theorem dJ6_bitCount_0f7a4_39 : decode cJ6_bitCount_0f7a4 39 = .ok (.iadd, 1) := by decide +kernel
theorem dJ6_bitCount_0f7a4_40 : decode cJ6_bitCount_0f7a4 40 = .ok (.istore_n 0, 1) := by decide +kernel
theorem dJ6_bitCount_0f7a4_41 : decode cJ6_bitCount_0f7a4 41 = .ok (.iload_n 0, 1) := by decide +kernel
theorem dJ6_bitCount_0f7a4_42 : decode cJ6_bitCount_0f7a4 42 = .ok (.iload_n 0, 1) := by decide +kernel
theorem dJ6_bitCount_0f7a4_43 : decode cJ6_bitCount_0f7a4 43 = .ok (.bipush 16, 2) := by decide +kernel
theorem dJ6_bitCount_0f7a4_45 : decode cJ6_bitCount_0f7a4 45 = .ok (.iushr, 1) := by decide +kernel
theorem dJ6_bitCount_0f7a4_46 : decode cJ6_bitCount_0f7a4 46 = .ok (.iadd, 1) := by decide +kernel
theorem dJ6_bitCount_0f7a4_47 : decode cJ6_bitCount_0f7a4 47 = .ok (.istore_n 0, 1) := by decide +kernel
theorem dJ6_bitCount_0f7a4_48 : decode cJ6_bitCount_0f7a4 48 = .ok (.iload_n 0, 1) := by decide +kernel
theorem dJ6_bitCount_0f7a4_49 : decode cJ6_bitCount_0f7a4 49 = .ok (.bipush 63, 2) := by decide +kernel
theorem dJ6_bitCount_0f7a4_51 : decode cJ6_bitCount_0f7a4 51 = .ok (.iand, 1) := by decide +kernel
theorem dJ6_bitCount_0f7a4_52 : decode cJ6_bitCount_0f7a4 52 = .ok (.ireturn, 1) := by decide +kernel
theorem dJ9_max_7cf53_0 : decode cJ9_max_7cf53 0 = .ok (.iload_n 0, 1) := by decide +kernel
theorem dJ9_max_7cf53_1 : decode cJ9_max_7cf53 1 = .ok (.iload_n 1, 1) := by decide +kernel
theorem dJ9_max_7cf53_2 : decode cJ9_max_7cf53 2 = .ok (.if_icmp .lt 7, 3) := by decide +kernel
theorem dJ9_max_7cf53_5 : decode cJ9_max_7cf53 5 = .ok (.iload_n 0, 1) := by decide +kernel
theorem dJ9_max_7cf53_6 : decode cJ9_max_7cf53 6 = .ok (.goto 4, 3) := by decide +kernel
theorem dJ9_max_7cf53_9 : decode cJ9_max_7cf53 9 = .ok (.iload_n 1, 1) := by decide +kernel
theorem dJ9_max_7cf53_10 : decode cJ9_max_7cf53 10 = .ok (.ireturn, 1) := by decide +kernel
theorem dJ9_min_7cf53_0 : decode cJ9_min_7cf53 0 = .ok (.iload_n 0, 1) := by decide +kernel
theorem dJ9_min_7cf53_1 : decode cJ9_min_7cf53 1 = .ok (.iload_n 1, 1) := by decide +kernel
theorem dJ9_min_7cf53_2 : decode cJ9_min_7cf53 2 = .ok (.if_icmp .gt 7, 3) := by decide +kernel
theorem dJ9_min_7cf53_5 : decode cJ9_min_7cf53 5 = .ok (.iload_n 0, 1) := by decide +kernel
theorem dJ9_min_7cf53_6 : decode cJ9_min_7cf53 6 = .ok (.goto 4, 3) := by decide +kernel
theorem dJ9_min_7cf53_9 : decode cJ9_min_7cf53 9 = .ok (.iload_n 1, 1) := by decide +kernel
theorem dJ9_min_7cf53_10 : decode cJ9_min_7cf53 10 = .ok (.ireturn, 1) := by decide +kernel
theorem dJ7_fill_53178_0 : decode cJ7_fill_53178 0 = .ok (.iconst 0, 1) := by decide +kernel
theorem dJ7_fill_53178_1 : decode cJ7_fill_53178 1 = .ok (.istore_n 2, 1) := by decide +kernel
theorem dJ7_fill_53178_2 : decode cJ7_fill_53178 2 = .ok (.aload_n 0, 1) := by decide +kernel
theorem dJ7_fill_53178_3 : decode cJ7_fill_53178 3 = .ok (.arraylength, 1) := by decide +kernel
theorem dJ7_fill_53178_4 : decode cJ7_fill_53178 4 = .ok (.istore_n 3, 1) := by decide +kernel
theorem dJ7_fill_53178_5 : decode cJ7_fill_53178 5 = .ok (.iload_n 2, 1) := by decide +kernel
theorem dJ7_fill_53178_6 : decode cJ7_fill_53178 6 = .ok (.iload_n 3, 1) := by decide +kernel
theorem dJ7_fill_53178_7 : decode cJ7_fill_53178 7 = .ok (.if_icmp .ge 13, 3) := by decide +kernel
theorem dJ7_fill_53178_10 : decode cJ7_fill_53178 10 = .ok (.aload_n 0, 1) := by decide +kernel
theorem dJ7_fill_53178_11 : decode cJ7_fill_53178 11 = .ok (.iload_n 2, 1) := by decide +kernel
theorem dJ7_fill_53178_12 : decode cJ7_fill_53178 12 = .ok (.iload_n 1, 1) := by decide +kernel
theorem dJ7_fill_53178_13 : decode cJ7_fill_53178 13 = .ok (.iastore, 1) := by decide +kernel
theorem dJ7_fill_53178_14 : decode cJ7_fill_53178 14 = .ok (.iinc 2 1, 3) := by decide +kernel
theorem dJ7_fill_53178_17 : decode cJ7_fill_53178 17 = .ok (.goto (-12), 3) := by decide +kernel
theorem dJ7_fill_53178_20 : decode cJ7_fill_53178 20 = .ok (.return_, 1) := by decide +kernel
theorem dL_input_0 : decode cL_input 0 = .ok (.aload_n 2, 1) := by decide +kernel
theorem dL_input_1 : decode cL_input 1 = .ok (.iconst 0, 1) := by decide +kernel
theorem dL_input_2 : decode cL_input 2 = .ok (.aload_n 0, 1) := by decide +kernel
theorem dL_input_3 : decode cL_input 3 = .ok (.iload_n 1, 1) := by decide +kernel
theorem dL_input_4 : decode cL_input 4 = .ok (.invokevirtual 7, 3) := by decide +kernel
theorem dL_input_7 : decode cL_input 7 = .ok (.i2l, 1) := by decide +kernel
theorem dL_input_8 : decode cL_input 8 = .ok (.lastore, 1) := by decide +kernel
theorem dL_input_9 : decode cL_input 9 = .ok (.goto 9, 3) := by decide +kernel
theorem dL_input_12 : decode cL_input 12 = .ok (.astore_n 3, 1) := by decide +kernel
theorem dL_input_13 : decode cL_input 13 = .ok (.iconst 1, 1) := by decide +kernel
theorem dL_input_14 : decode cL_input 14 = .ok (.ireturn, 1) := by decide +kernel
theorem dL_input_15 : decode cL_input 15 = .ok (.astore_n 3, 1) := by decide +kernel
theorem dL_input_16 : decode cL_input 16 = .ok (.iconst 2, 1) := by decide +kernel
theorem dL_input_17 : decode cL_input 17 = .ok (.ireturn, 1) := by decide +kernel
theorem dL_input_18 : decode cL_input 18 = .ok (.iconst 0, 1) := by decide +kernel
theorem dL_input_19 : decode cL_input 19 = .ok (.ireturn, 1) := by decide +kernel
theorem dL_gate_0 : decode cL_gate 0 = .ok (.aload 7, 2) := by decide +kernel
theorem dL_gate_2 : decode cL_gate 2 = .ok (.iconst 0, 1) := by decide +kernel
theorem dL_gate_3 : decode cL_gate 3 = .ok (.aload_n 0, 1) := by decide +kernel
theorem dL_gate_4 : decode cL_gate 4 = .ok (.iload_n 1, 1) := by decide +kernel
theorem dL_gate_5 : decode cL_gate 5 = .ok (.iload_n 2, 1) := by decide +kernel
theorem dL_gate_6 : decode cL_gate 6 = .ok (.iload_n 3, 1) := by decide +kernel
theorem dL_gate_7 : decode cL_gate 7 = .ok (.iload 4, 2) := by decide +kernel
theorem dL_gate_9 : decode cL_gate 9 = .ok (.iload 5, 2) := by decide +kernel
theorem dL_gate_11 : decode cL_gate 11 = .ok (.iload 6, 2) := by decide +kernel
theorem dL_gate_13 : decode cL_gate 13 = .ok (.invokevirtual 17, 3) := by decide +kernel
theorem dL_gate_16 : decode cL_gate 16 = .ok (.i2l, 1) := by decide +kernel
theorem dL_gate_17 : decode cL_gate 17 = .ok (.lastore, 1) := by decide +kernel
theorem dL_gate_18 : decode cL_gate 18 = .ok (.goto 15, 3) := by decide +kernel
theorem dL_gate_21 : decode cL_gate 21 = .ok (.astore 8, 2) := by decide +kernel
theorem dL_gate_23 : decode cL_gate 23 = .ok (.iconst 1, 1) := by decide +kernel
theorem dL_gate_24 : decode cL_gate 24 = .ok (.ireturn, 1) := by decide +kernel
theorem dL_gate_25 : decode cL_gate 25 = .ok (.astore 8, 2) := by decide +kernel
theorem dL_gate_27 : decode cL_gate 27 = .ok (.iconst 2, 1) := by decide +kernel
theorem dL_gate_28 : decode cL_gate 28 = .ok (.ireturn, 1) := by decide +kernel
theorem dL_gate_29 : decode cL_gate 29 = .ok (.astore 8, 2) := by decide +kernel
theorem dL_gate_31 : decode cL_gate 31 = .ok (.iconst 3, 1) := by decide +kernel
theorem dL_gate_32 : decode cL_gate 32 = .ok (.ireturn, 1) := by decide +kernel
theorem dL_gate_33 : decode cL_gate 33 = .ok (.iconst 0, 1) := by decide +kernel
theorem dL_gate_34 : decode cL_gate 34 = .ok (.ireturn, 1) := by decide +kernel
theorem dL_register_0 : decode cL_register 0 = .ok (.aload 6, 2) := by decide +kernel
theorem dL_register_2 : decode cL_register 2 = .ok (.iconst 0, 1) := by decide +kernel
theorem dL_register_3 : decode cL_register 3 = .ok (.aload_n 0, 1) := by decide +kernel
theorem dL_register_4 : decode cL_register 4 = .ok (.iload_n 1, 1) := by decide +kernel
theorem dL_register_5 : decode cL_register 5 = .ok (.iload_n 2, 1) := by decide +kernel
theorem dL_register_6 : decode cL_register 6 = .ok (.iload_n 3, 1) := by decide +kernel
theorem dL_register_7 : decode cL_register 7 = .ok (.iload 4, 2) := by decide +kernel
theorem dL_register_9 : decode cL_register 9 = .ok (.iload 5, 2) := by decide +kernel
theorem dL_register_11 : decode cL_register 11 = .ok (.invokevirtual 23, 3) := by decide +kernel
theorem dL_register_14 : decode cL_register 14 = .ok (.i2l, 1) := by decide +kernel
theorem dL_register_15 : decode cL_register 15 = .ok (.lastore, 1) := by decide +kernel
theorem dL_register_16 : decode cL_register 16 = .ok (.goto 15, 3) := by decide +kernel
theorem dL_register_19 : decode cL_register 19 = .ok (.astore 7, 2) := by decide +kernel
theorem dL_register_21 : decode cL_register 21 = .ok (.iconst 1, 1) := by decide +kernel
theorem dL_register_22 : decode cL_register 22 = .ok (.ireturn, 1) := by decide +kernel
theorem dL_register_23 : decode cL_register 23 = .ok (.astore 7, 2) := by decide +kernel
theorem dL_register_25 : decode cL_register 25 = .ok (.iconst 2, 1) := by decide +kernel
theorem dL_register_26 : decode cL_register 26 = .ok (.ireturn, 1) := by decide +kernel
theorem dL_register_27 : decode cL_register 27 = .ok (.astore 7, 2) := by decide +kernel
theorem dL_register_29 : decode cL_register 29 = .ok (.iconst 3, 1) := by decide +kernel
theorem dL_register_30 : decode cL_register 30 = .ok (.ireturn, 1) := by decide +kernel
theorem dL_register_31 : decode cL_register 31 = .ok (.iconst 0, 1) := by decide +kernel
theorem dL_register_32 : decode cL_register 32 = .ok (.ireturn, 1) := by decide +kernel
theorem dL_setWindow_0 : decode cL_setWindow 0 = .ok (.aload 4, 2) := by decide +kernel
theorem dL_setWindow_2 : decode cL_setWindow 2 = .ok (.iconst 0, 1) := by decide +kernel
theorem dL_setWindow_3 : decode cL_setWindow 3 = .ok (.aload_n 0, 1) := by decide +kernel
theorem dL_setWindow_4 : decode cL_setWindow 4 = .ok (.iload_n 1, 1) := by decide +kernel
theorem dL_setWindow_5 : decode cL_setWindow 5 = .ok (.iload_n 2, 1) := by decide +kernel
theorem dL_setWindow_6 : decode cL_setWindow 6 = .ok (.iload_n 3, 1) := by decide +kernel
theorem dL_setWindow_7 : decode cL_setWindow 7 = .ok (.invokevirtual 27, 3) := by decide +kernel
theorem dL_setWindow_10 : decode cL_setWindow 10 = .ok (.i2l, 1) := by decide +kernel
theorem dL_setWindow_11 : decode cL_setWindow 11 = .ok (.lastore, 1) := by decide +kernel
theorem dL_setWindow_12 : decode cL_setWindow 12 = .ok (.goto 11, 3) := by decide +kernel
theorem dL_setWindow_15 : decode cL_setWindow 15 = .ok (.astore 5, 2) := by decide +kernel
theorem dL_setWindow_17 : decode cL_setWindow 17 = .ok (.iconst 1, 1) := by decide +kernel
theorem dL_setWindow_18 : decode cL_setWindow 18 = .ok (.ireturn, 1) := by decide +kernel
theorem dL_setWindow_19 : decode cL_setWindow 19 = .ok (.astore 5, 2) := by decide +kernel
theorem dL_setWindow_21 : decode cL_setWindow 21 = .ok (.iconst 2, 1) := by decide +kernel
theorem dL_setWindow_22 : decode cL_setWindow 22 = .ok (.ireturn, 1) := by decide +kernel
theorem dL_setWindow_23 : decode cL_setWindow 23 = .ok (.iconst 0, 1) := by decide +kernel
theorem dL_setWindow_24 : decode cL_setWindow 24 = .ok (.ireturn, 1) := by decide +kernel
theorem dL_setDelay_0 : decode cL_setDelay 0 = .ok (.aload_n 3, 1) := by decide +kernel
theorem dL_setDelay_1 : decode cL_setDelay 1 = .ok (.iconst 0, 1) := by decide +kernel
theorem dL_setDelay_2 : decode cL_setDelay 2 = .ok (.aload_n 0, 1) := by decide +kernel
theorem dL_setDelay_3 : decode cL_setDelay 3 = .ok (.iload_n 1, 1) := by decide +kernel
theorem dL_setDelay_4 : decode cL_setDelay 4 = .ok (.iload_n 2, 1) := by decide +kernel
theorem dL_setDelay_5 : decode cL_setDelay 5 = .ok (.invokevirtual 31, 3) := by decide +kernel
theorem dL_setDelay_8 : decode cL_setDelay 8 = .ok (.i2l, 1) := by decide +kernel
theorem dL_setDelay_9 : decode cL_setDelay 9 = .ok (.lastore, 1) := by decide +kernel
theorem dL_setDelay_10 : decode cL_setDelay 10 = .ok (.goto 11, 3) := by decide +kernel
theorem dL_setDelay_13 : decode cL_setDelay 13 = .ok (.astore 4, 2) := by decide +kernel
theorem dL_setDelay_15 : decode cL_setDelay 15 = .ok (.iconst 1, 1) := by decide +kernel
theorem dL_setDelay_16 : decode cL_setDelay 16 = .ok (.ireturn, 1) := by decide +kernel
theorem dL_setDelay_17 : decode cL_setDelay 17 = .ok (.astore 4, 2) := by decide +kernel
theorem dL_setDelay_19 : decode cL_setDelay 19 = .ok (.iconst 2, 1) := by decide +kernel
theorem dL_setDelay_20 : decode cL_setDelay 20 = .ok (.ireturn, 1) := by decide +kernel
theorem dL_setDelay_21 : decode cL_setDelay 21 = .ok (.iconst 0, 1) := by decide +kernel
theorem dL_setDelay_22 : decode cL_setDelay 22 = .ok (.ireturn, 1) := by decide +kernel
theorem dL_ofFlaw_0 : decode cL_ofFlaw 0 = .ok (.aload_n 3, 1) := by decide +kernel
theorem dL_ofFlaw_1 : decode cL_ofFlaw 1 = .ok (.iconst 0, 1) := by decide +kernel
theorem dL_ofFlaw_2 : decode cL_ofFlaw 2 = .ok (.aload_n 0, 1) := by decide +kernel
theorem dL_ofFlaw_3 : decode cL_ofFlaw 3 = .ok (.iload_n 1, 1) := by decide +kernel
theorem dL_ofFlaw_4 : decode cL_ofFlaw 4 = .ok (.iload_n 2, 1) := by decide +kernel
theorem dL_ofFlaw_5 : decode cL_ofFlaw 5 = .ok (.invokevirtual 35, 3) := by decide +kernel
theorem dL_ofFlaw_8 : decode cL_ofFlaw 8 = .ok (.i2l, 1) := by decide +kernel
theorem dL_ofFlaw_9 : decode cL_ofFlaw 9 = .ok (.lastore, 1) := by decide +kernel
theorem dL_ofFlaw_10 : decode cL_ofFlaw 10 = .ok (.goto 11, 3) := by decide +kernel
theorem dL_ofFlaw_13 : decode cL_ofFlaw 13 = .ok (.astore 4, 2) := by decide +kernel
theorem dL_ofFlaw_15 : decode cL_ofFlaw 15 = .ok (.iconst 1, 1) := by decide +kernel
theorem dL_ofFlaw_16 : decode cL_ofFlaw 16 = .ok (.ireturn, 1) := by decide +kernel
theorem dL_ofFlaw_17 : decode cL_ofFlaw 17 = .ok (.astore 4, 2) := by decide +kernel
theorem dL_ofFlaw_19 : decode cL_ofFlaw 19 = .ok (.iconst 2, 1) := by decide +kernel
theorem dL_ofFlaw_20 : decode cL_ofFlaw 20 = .ok (.ireturn, 1) := by decide +kernel
theorem dL_ofFlaw_21 : decode cL_ofFlaw 21 = .ok (.iconst 0, 1) := by decide +kernel
theorem dL_ofFlaw_22 : decode cL_ofFlaw 22 = .ok (.ireturn, 1) := by decide +kernel
theorem dL_arrival_0 : decode cL_arrival 0 = .ok (.aload_n 2, 1) := by decide +kernel
theorem dL_arrival_1 : decode cL_arrival 1 = .ok (.iconst 0, 1) := by decide +kernel
theorem dL_arrival_2 : decode cL_arrival 2 = .ok (.aload_n 0, 1) := by decide +kernel
theorem dL_arrival_3 : decode cL_arrival 3 = .ok (.iload_n 1, 1) := by decide +kernel
theorem dL_arrival_4 : decode cL_arrival 4 = .ok (.invokevirtual 38, 3) := by decide +kernel
theorem dL_arrival_7 : decode cL_arrival 7 = .ok (.i2l, 1) := by decide +kernel
theorem dL_arrival_8 : decode cL_arrival 8 = .ok (.lastore, 1) := by decide +kernel
theorem dL_arrival_9 : decode cL_arrival 9 = .ok (.goto 6, 3) := by decide +kernel
theorem dL_arrival_12 : decode cL_arrival 12 = .ok (.astore_n 3, 1) := by decide +kernel
theorem dL_arrival_13 : decode cL_arrival 13 = .ok (.iconst 1, 1) := by decide +kernel
theorem dL_arrival_14 : decode cL_arrival 14 = .ok (.ireturn, 1) := by decide +kernel
theorem dL_arrival_15 : decode cL_arrival 15 = .ok (.iconst 0, 1) := by decide +kernel
theorem dL_arrival_16 : decode cL_arrival 16 = .ok (.ireturn, 1) := by decide +kernel
theorem dL_users_0 : decode cL_users 0 = .ok (.aload_n 2, 1) := by decide +kernel
theorem dL_users_1 : decode cL_users 1 = .ok (.iconst 0, 1) := by decide +kernel
theorem dL_users_2 : decode cL_users 2 = .ok (.aload_n 0, 1) := by decide +kernel
theorem dL_users_3 : decode cL_users 3 = .ok (.iload_n 1, 1) := by decide +kernel
theorem dL_users_4 : decode cL_users 4 = .ok (.invokevirtual 41, 3) := by decide +kernel
theorem dL_users_7 : decode cL_users 7 = .ok (.i2l, 1) := by decide +kernel
theorem dL_users_8 : decode cL_users 8 = .ok (.lastore, 1) := by decide +kernel
theorem dL_users_9 : decode cL_users 9 = .ok (.goto 6, 3) := by decide +kernel
theorem dL_users_12 : decode cL_users 12 = .ok (.astore_n 3, 1) := by decide +kernel
theorem dL_users_13 : decode cL_users 13 = .ok (.iconst 1, 1) := by decide +kernel
theorem dL_users_14 : decode cL_users 14 = .ok (.ireturn, 1) := by decide +kernel
theorem dL_users_15 : decode cL_users 15 = .ok (.iconst 0, 1) := by decide +kernel
theorem dL_users_16 : decode cL_users 16 = .ok (.ireturn, 1) := by decide +kernel
theorem dL_start_0 : decode cL_start 0 = .ok (.aload_n 1, 1) := by decide +kernel
theorem dL_start_1 : decode cL_start 1 = .ok (.iconst 0, 1) := by decide +kernel
theorem dL_start_2 : decode cL_start 2 = .ok (.aload_n 0, 1) := by decide +kernel
theorem dL_start_3 : decode cL_start 3 = .ok (.invokevirtual 44, 3) := by decide +kernel
theorem dL_start_6 : decode cL_start 6 = .ok (.i2l, 1) := by decide +kernel
theorem dL_start_7 : decode cL_start 7 = .ok (.lastore, 1) := by decide +kernel
theorem dL_start_8 : decode cL_start 8 = .ok (.goto 6, 3) := by decide +kernel
theorem dL_start_11 : decode cL_start 11 = .ok (.astore_n 2, 1) := by decide +kernel
theorem dL_start_12 : decode cL_start 12 = .ok (.iconst 1, 1) := by decide +kernel
theorem dL_start_13 : decode cL_start 13 = .ok (.ireturn, 1) := by decide +kernel
theorem dL_start_14 : decode cL_start 14 = .ok (.iconst 0, 1) := by decide +kernel
theorem dL_start_15 : decode cL_start 15 = .ok (.ireturn, 1) := by decide +kernel
theorem dL_set_0 : decode cL_set 0 = .ok (.aload_n 3, 1) := by decide +kernel
theorem dL_set_1 : decode cL_set 1 = .ok (.iconst 0, 1) := by decide +kernel
theorem dL_set_2 : decode cL_set 2 = .ok (.aload_n 0, 1) := by decide +kernel
theorem dL_set_3 : decode cL_set 3 = .ok (.iload_n 1, 1) := by decide +kernel
theorem dL_set_4 : decode cL_set 4 = .ok (.iload_n 2, 1) := by decide +kernel
theorem dL_set_5 : decode cL_set 5 = .ok (.invokevirtual 48, 3) := by decide +kernel
theorem dL_set_8 : decode cL_set 8 = .ok (.i2l, 1) := by decide +kernel
theorem dL_set_9 : decode cL_set 9 = .ok (.lastore, 1) := by decide +kernel
theorem dL_set_10 : decode cL_set 10 = .ok (.goto 15, 3) := by decide +kernel
theorem dL_set_13 : decode cL_set 13 = .ok (.astore 4, 2) := by decide +kernel
theorem dL_set_15 : decode cL_set 15 = .ok (.iconst 1, 1) := by decide +kernel
theorem dL_set_16 : decode cL_set 16 = .ok (.ireturn, 1) := by decide +kernel
theorem dL_set_17 : decode cL_set 17 = .ok (.astore 4, 2) := by decide +kernel
theorem dL_set_19 : decode cL_set 19 = .ok (.iconst 2, 1) := by decide +kernel
theorem dL_set_20 : decode cL_set 20 = .ok (.ireturn, 1) := by decide +kernel
theorem dL_set_21 : decode cL_set 21 = .ok (.astore 4, 2) := by decide +kernel
theorem dL_set_23 : decode cL_set 23 = .ok (.iconst 3, 1) := by decide +kernel
theorem dL_set_24 : decode cL_set 24 = .ok (.ireturn, 1) := by decide +kernel
theorem dL_set_25 : decode cL_set 25 = .ok (.iconst 0, 1) := by decide +kernel
theorem dL_set_26 : decode cL_set 26 = .ok (.ireturn, 1) := by decide +kernel
theorem dL_pass_0 : decode cL_pass 0 = .ok (.aload_n 2, 1) := by decide +kernel
theorem dL_pass_1 : decode cL_pass 1 = .ok (.iconst 0, 1) := by decide +kernel
theorem dL_pass_2 : decode cL_pass 2 = .ok (.aload_n 0, 1) := by decide +kernel
theorem dL_pass_3 : decode cL_pass 3 = .ok (.iload_n 1, 1) := by decide +kernel
theorem dL_pass_4 : decode cL_pass 4 = .ok (.invokevirtual 51, 3) := by decide +kernel
theorem dL_pass_7 : decode cL_pass 7 = .ok (.i2l, 1) := by decide +kernel
theorem dL_pass_8 : decode cL_pass 8 = .ok (.lastore, 1) := by decide +kernel
theorem dL_pass_9 : decode cL_pass 9 = .ok (.goto 9, 3) := by decide +kernel
theorem dL_pass_12 : decode cL_pass 12 = .ok (.astore_n 3, 1) := by decide +kernel
theorem dL_pass_13 : decode cL_pass 13 = .ok (.iconst 1, 1) := by decide +kernel
theorem dL_pass_14 : decode cL_pass 14 = .ok (.ireturn, 1) := by decide +kernel
theorem dL_pass_15 : decode cL_pass 15 = .ok (.astore_n 3, 1) := by decide +kernel
theorem dL_pass_16 : decode cL_pass 16 = .ok (.iconst 2, 1) := by decide +kernel
theorem dL_pass_17 : decode cL_pass 17 = .ok (.ireturn, 1) := by decide +kernel
theorem dL_pass_18 : decode cL_pass 18 = .ok (.iconst 0, 1) := by decide +kernel
theorem dL_pass_19 : decode cL_pass 19 = .ok (.ireturn, 1) := by decide +kernel
theorem dL_settle_0 : decode cL_settle 0 = .ok (.aload_n 1, 1) := by decide +kernel
theorem dL_settle_1 : decode cL_settle 1 = .ok (.iconst 0, 1) := by decide +kernel
theorem dL_settle_2 : decode cL_settle 2 = .ok (.aload_n 0, 1) := by decide +kernel
theorem dL_settle_3 : decode cL_settle 3 = .ok (.invokevirtual 54, 3) := by decide +kernel
theorem dL_settle_6 : decode cL_settle 6 = .ok (.i2l, 1) := by decide +kernel
theorem dL_settle_7 : decode cL_settle 7 = .ok (.lastore, 1) := by decide +kernel
theorem dL_settle_8 : decode cL_settle 8 = .ok (.goto 6, 3) := by decide +kernel
theorem dL_settle_11 : decode cL_settle 11 = .ok (.astore_n 2, 1) := by decide +kernel
theorem dL_settle_12 : decode cL_settle 12 = .ok (.iconst 1, 1) := by decide +kernel
theorem dL_settle_13 : decode cL_settle 13 = .ok (.ireturn, 1) := by decide +kernel
theorem dL_settle_14 : decode cL_settle 14 = .ok (.iconst 0, 1) := by decide +kernel
theorem dL_settle_15 : decode cL_settle 15 = .ok (.ireturn, 1) := by decide +kernel
theorem dL_told_0 : decode cL_told 0 = .ok (.aload_n 2, 1) := by decide +kernel
theorem dL_told_1 : decode cL_told 1 = .ok (.iconst 0, 1) := by decide +kernel
theorem dL_told_2 : decode cL_told 2 = .ok (.aload_n 0, 1) := by decide +kernel
theorem dL_told_3 : decode cL_told 3 = .ok (.iload_n 1, 1) := by decide +kernel
theorem dL_told_4 : decode cL_told 4 = .ok (.invokevirtual 57, 3) := by decide +kernel
theorem dL_told_7 : decode cL_told 7 = .ok (.i2l, 1) := by decide +kernel
theorem dL_told_8 : decode cL_told 8 = .ok (.lastore, 1) := by decide +kernel
theorem dL_told_9 : decode cL_told 9 = .ok (.goto 6, 3) := by decide +kernel
theorem dL_told_12 : decode cL_told 12 = .ok (.astore_n 3, 1) := by decide +kernel
theorem dL_told_13 : decode cL_told 13 = .ok (.iconst 1, 1) := by decide +kernel
theorem dL_told_14 : decode cL_told 14 = .ok (.ireturn, 1) := by decide +kernel
theorem dL_told_15 : decode cL_told 15 = .ok (.iconst 0, 1) := by decide +kernel
theorem dL_told_16 : decode cL_told 16 = .ok (.ireturn, 1) := by decide +kernel
theorem dL_ofWire_0 : decode cL_ofWire 0 = .ok (.aload_n 3, 1) := by decide +kernel
theorem dL_ofWire_1 : decode cL_ofWire 1 = .ok (.iconst 0, 1) := by decide +kernel
theorem dL_ofWire_2 : decode cL_ofWire 2 = .ok (.aload_n 0, 1) := by decide +kernel
theorem dL_ofWire_3 : decode cL_ofWire 3 = .ok (.iload_n 1, 1) := by decide +kernel
theorem dL_ofWire_4 : decode cL_ofWire 4 = .ok (.iload_n 2, 1) := by decide +kernel
theorem dL_ofWire_5 : decode cL_ofWire 5 = .ok (.invokevirtual 60, 3) := by decide +kernel
theorem dL_ofWire_8 : decode cL_ofWire 8 = .ok (.i2l, 1) := by decide +kernel
theorem dL_ofWire_9 : decode cL_ofWire 9 = .ok (.lastore, 1) := by decide +kernel
theorem dL_ofWire_10 : decode cL_ofWire 10 = .ok (.goto 11, 3) := by decide +kernel
theorem dL_ofWire_13 : decode cL_ofWire 13 = .ok (.astore 4, 2) := by decide +kernel
theorem dL_ofWire_15 : decode cL_ofWire 15 = .ok (.iconst 1, 1) := by decide +kernel
theorem dL_ofWire_16 : decode cL_ofWire 16 = .ok (.ireturn, 1) := by decide +kernel
theorem dL_ofWire_17 : decode cL_ofWire 17 = .ok (.astore 4, 2) := by decide +kernel
theorem dL_ofWire_19 : decode cL_ofWire 19 = .ok (.iconst 2, 1) := by decide +kernel
theorem dL_ofWire_20 : decode cL_ofWire 20 = .ok (.ireturn, 1) := by decide +kernel
theorem dL_ofWire_21 : decode cL_ofWire 21 = .ok (.iconst 0, 1) := by decide +kernel
theorem dL_ofWire_22 : decode cL_ofWire 22 = .ok (.ireturn, 1) := by decide +kernel
theorem dL_pending_0 : decode cL_pending 0 = .ok (.aload_n 2, 1) := by decide +kernel
theorem dL_pending_1 : decode cL_pending 1 = .ok (.iconst 0, 1) := by decide +kernel
theorem dL_pending_2 : decode cL_pending 2 = .ok (.aload_n 0, 1) := by decide +kernel
theorem dL_pending_3 : decode cL_pending 3 = .ok (.iload_n 1, 1) := by decide +kernel
theorem dL_pending_4 : decode cL_pending 4 = .ok (.invokevirtual 63, 3) := by decide +kernel
theorem dL_pending_7 : decode cL_pending 7 = .ok (.i2l, 1) := by decide +kernel
theorem dL_pending_8 : decode cL_pending 8 = .ok (.lastore, 1) := by decide +kernel
theorem dL_pending_9 : decode cL_pending 9 = .ok (.goto 6, 3) := by decide +kernel
theorem dL_pending_12 : decode cL_pending 12 = .ok (.astore_n 3, 1) := by decide +kernel
theorem dL_pending_13 : decode cL_pending 13 = .ok (.iconst 1, 1) := by decide +kernel
theorem dL_pending_14 : decode cL_pending 14 = .ok (.ireturn, 1) := by decide +kernel
theorem dL_pending_15 : decode cL_pending 15 = .ok (.iconst 0, 1) := by decide +kernel
theorem dL_pending_16 : decode cL_pending 16 = .ok (.ireturn, 1) := by decide +kernel
theorem dL_ofHazard_0 : decode cL_ofHazard 0 = .ok (.aload_n 3, 1) := by decide +kernel
theorem dL_ofHazard_1 : decode cL_ofHazard 1 = .ok (.iconst 0, 1) := by decide +kernel
theorem dL_ofHazard_2 : decode cL_ofHazard 2 = .ok (.aload_n 0, 1) := by decide +kernel
theorem dL_ofHazard_3 : decode cL_ofHazard 3 = .ok (.iload_n 1, 1) := by decide +kernel
theorem dL_ofHazard_4 : decode cL_ofHazard 4 = .ok (.iload_n 2, 1) := by decide +kernel
theorem dL_ofHazard_5 : decode cL_ofHazard 5 = .ok (.invokevirtual 66, 3) := by decide +kernel
theorem dL_ofHazard_8 : decode cL_ofHazard 8 = .ok (.i2l, 1) := by decide +kernel
theorem dL_ofHazard_9 : decode cL_ofHazard 9 = .ok (.lastore, 1) := by decide +kernel
theorem dL_ofHazard_10 : decode cL_ofHazard 10 = .ok (.goto 11, 3) := by decide +kernel
theorem dL_ofHazard_13 : decode cL_ofHazard 13 = .ok (.astore 4, 2) := by decide +kernel
theorem dL_ofHazard_15 : decode cL_ofHazard 15 = .ok (.iconst 1, 1) := by decide +kernel
theorem dL_ofHazard_16 : decode cL_ofHazard 16 = .ok (.ireturn, 1) := by decide +kernel
theorem dL_ofHazard_17 : decode cL_ofHazard 17 = .ok (.astore 4, 2) := by decide +kernel
theorem dL_ofHazard_19 : decode cL_ofHazard 19 = .ok (.iconst 2, 1) := by decide +kernel
theorem dL_ofHazard_20 : decode cL_ofHazard 20 = .ok (.ireturn, 1) := by decide +kernel
theorem dL_ofHazard_21 : decode cL_ofHazard 21 = .ok (.iconst 0, 1) := by decide +kernel
theorem dL_ofHazard_22 : decode cL_ofHazard 22 = .ok (.ireturn, 1) := by decide +kernel
theorem dL_wouldBe_0 : decode cL_wouldBe 0 = .ok (.aload 4, 2) := by decide +kernel
theorem dL_wouldBe_2 : decode cL_wouldBe 2 = .ok (.iconst 0, 1) := by decide +kernel
theorem dL_wouldBe_3 : decode cL_wouldBe 3 = .ok (.aload_n 0, 1) := by decide +kernel
theorem dL_wouldBe_4 : decode cL_wouldBe 4 = .ok (.iload_n 1, 1) := by decide +kernel
theorem dL_wouldBe_5 : decode cL_wouldBe 5 = .ok (.iload_n 2, 1) := by decide +kernel
theorem dL_wouldBe_6 : decode cL_wouldBe 6 = .ok (.iload_n 3, 1) := by decide +kernel
theorem dL_wouldBe_7 : decode cL_wouldBe 7 = .ok (.invokevirtual 69, 3) := by decide +kernel
theorem dL_wouldBe_10 : decode cL_wouldBe 10 = .ok (.i2l, 1) := by decide +kernel
theorem dL_wouldBe_11 : decode cL_wouldBe 11 = .ok (.lastore, 1) := by decide +kernel
theorem dL_wouldBe_12 : decode cL_wouldBe 12 = .ok (.goto 15, 3) := by decide +kernel
theorem dL_wouldBe_15 : decode cL_wouldBe 15 = .ok (.astore 5, 2) := by decide +kernel
theorem dL_wouldBe_17 : decode cL_wouldBe 17 = .ok (.iconst 1, 1) := by decide +kernel
theorem dL_wouldBe_18 : decode cL_wouldBe 18 = .ok (.ireturn, 1) := by decide +kernel
theorem dL_wouldBe_19 : decode cL_wouldBe 19 = .ok (.astore 5, 2) := by decide +kernel
theorem dL_wouldBe_21 : decode cL_wouldBe 21 = .ok (.iconst 2, 1) := by decide +kernel
theorem dL_wouldBe_22 : decode cL_wouldBe 22 = .ok (.ireturn, 1) := by decide +kernel
theorem dL_wouldBe_23 : decode cL_wouldBe 23 = .ok (.astore 5, 2) := by decide +kernel
theorem dL_wouldBe_25 : decode cL_wouldBe 25 = .ok (.iconst 3, 1) := by decide +kernel
theorem dL_wouldBe_26 : decode cL_wouldBe 26 = .ok (.ireturn, 1) := by decide +kernel
theorem dL_wouldBe_27 : decode cL_wouldBe 27 = .ok (.iconst 0, 1) := by decide +kernel
theorem dL_wouldBe_28 : decode cL_wouldBe 28 = .ok (.ireturn, 1) := by decide +kernel
theorem dL_hazardsWith_0 : decode cL_hazardsWith 0 = .ok (.aload_n 3, 1) := by decide +kernel
theorem dL_hazardsWith_1 : decode cL_hazardsWith 1 = .ok (.iconst 0, 1) := by decide +kernel
theorem dL_hazardsWith_2 : decode cL_hazardsWith 2 = .ok (.aload_n 0, 1) := by decide +kernel
theorem dL_hazardsWith_3 : decode cL_hazardsWith 3 = .ok (.iload_n 1, 1) := by decide +kernel
theorem dL_hazardsWith_4 : decode cL_hazardsWith 4 = .ok (.iload_n 2, 1) := by decide +kernel
theorem dL_hazardsWith_5 : decode cL_hazardsWith 5 = .ok (.invokevirtual 72, 3) := by decide +kernel
theorem dL_hazardsWith_8 : decode cL_hazardsWith 8 = .ok (.i2l, 1) := by decide +kernel
theorem dL_hazardsWith_9 : decode cL_hazardsWith 9 = .ok (.lastore, 1) := by decide +kernel
theorem dL_hazardsWith_10 : decode cL_hazardsWith 10 = .ok (.goto 15, 3) := by decide +kernel
theorem dL_hazardsWith_13 : decode cL_hazardsWith 13 = .ok (.astore 4, 2) := by decide +kernel
theorem dL_hazardsWith_15 : decode cL_hazardsWith 15 = .ok (.iconst 1, 1) := by decide +kernel
theorem dL_hazardsWith_16 : decode cL_hazardsWith 16 = .ok (.ireturn, 1) := by decide +kernel
theorem dL_hazardsWith_17 : decode cL_hazardsWith 17 = .ok (.astore 4, 2) := by decide +kernel
theorem dL_hazardsWith_19 : decode cL_hazardsWith 19 = .ok (.iconst 2, 1) := by decide +kernel
theorem dL_hazardsWith_20 : decode cL_hazardsWith 20 = .ok (.ireturn, 1) := by decide +kernel
theorem dL_hazardsWith_21 : decode cL_hazardsWith 21 = .ok (.astore 4, 2) := by decide +kernel
theorem dL_hazardsWith_23 : decode cL_hazardsWith 23 = .ok (.iconst 3, 1) := by decide +kernel
theorem dL_hazardsWith_24 : decode cL_hazardsWith 24 = .ok (.ireturn, 1) := by decide +kernel
theorem dL_hazardsWith_25 : decode cL_hazardsWith 25 = .ok (.iconst 0, 1) := by decide +kernel
theorem dL_hazardsWith_26 : decode cL_hazardsWith 26 = .ok (.ireturn, 1) := by decide +kernel
theorem dL_settlesIn_0 : decode cL_settlesIn 0 = .ok (.aload_n 1, 1) := by decide +kernel
theorem dL_settlesIn_1 : decode cL_settlesIn 1 = .ok (.iconst 0, 1) := by decide +kernel
theorem dL_settlesIn_2 : decode cL_settlesIn 2 = .ok (.aload_n 0, 1) := by decide +kernel
theorem dL_settlesIn_3 : decode cL_settlesIn 3 = .ok (.invokevirtual 75, 3) := by decide +kernel
theorem dL_settlesIn_6 : decode cL_settlesIn 6 = .ok (.i2l, 1) := by decide +kernel
theorem dL_settlesIn_7 : decode cL_settlesIn 7 = .ok (.lastore, 1) := by decide +kernel
theorem dL_settlesIn_8 : decode cL_settlesIn 8 = .ok (.goto 6, 3) := by decide +kernel
theorem dL_settlesIn_11 : decode cL_settlesIn 11 = .ok (.astore_n 2, 1) := by decide +kernel
theorem dL_settlesIn_12 : decode cL_settlesIn 12 = .ok (.iconst 1, 1) := by decide +kernel
theorem dL_settlesIn_13 : decode cL_settlesIn 13 = .ok (.ireturn, 1) := by decide +kernel
theorem dL_settlesIn_14 : decode cL_settlesIn 14 = .ok (.iconst 0, 1) := by decide +kernel
theorem dL_settlesIn_15 : decode cL_settlesIn 15 = .ok (.ireturn, 1) := by decide +kernel
theorem dL_longestWith_0 : decode cL_longestWith 0 = .ok (.aload_n 3, 1) := by decide +kernel
theorem dL_longestWith_1 : decode cL_longestWith 1 = .ok (.iconst 0, 1) := by decide +kernel
theorem dL_longestWith_2 : decode cL_longestWith 2 = .ok (.aload_n 0, 1) := by decide +kernel
theorem dL_longestWith_3 : decode cL_longestWith 3 = .ok (.iload_n 1, 1) := by decide +kernel
theorem dL_longestWith_4 : decode cL_longestWith 4 = .ok (.iload_n 2, 1) := by decide +kernel
theorem dL_longestWith_5 : decode cL_longestWith 5 = .ok (.invokevirtual 78, 3) := by decide +kernel
theorem dL_longestWith_8 : decode cL_longestWith 8 = .ok (.i2l, 1) := by decide +kernel
theorem dL_longestWith_9 : decode cL_longestWith 9 = .ok (.lastore, 1) := by decide +kernel
theorem dL_longestWith_10 : decode cL_longestWith 10 = .ok (.goto 11, 3) := by decide +kernel
theorem dL_longestWith_13 : decode cL_longestWith 13 = .ok (.astore 4, 2) := by decide +kernel
theorem dL_longestWith_15 : decode cL_longestWith 15 = .ok (.iconst 1, 1) := by decide +kernel
theorem dL_longestWith_16 : decode cL_longestWith 16 = .ok (.ireturn, 1) := by decide +kernel
theorem dL_longestWith_17 : decode cL_longestWith 17 = .ok (.astore 4, 2) := by decide +kernel
theorem dL_longestWith_19 : decode cL_longestWith 19 = .ok (.iconst 2, 1) := by decide +kernel
theorem dL_longestWith_20 : decode cL_longestWith 20 = .ok (.ireturn, 1) := by decide +kernel
theorem dL_longestWith_21 : decode cL_longestWith 21 = .ok (.iconst 0, 1) := by decide +kernel
theorem dL_longestWith_22 : decode cL_longestWith 22 = .ok (.ireturn, 1) := by decide +kernel
theorem dL_law_0 : decode cL_law 0 = .ok (.new 8, 3) := by decide +kernel
theorem dL_law_3 : decode cL_law 3 = .ok (.dup, 1) := by decide +kernel
theorem dL_law_4 : decode cL_law 4 = .ok (.invokespecial 81, 3) := by decide +kernel
theorem dL_law_7 : decode cL_law 7 = .ok (.astore_n 1, 1) := by decide +kernel
theorem dL_law_8 : decode cL_law 8 = .ok (.new 82, 3) := by decide +kernel
theorem dL_law_11 : decode cL_law 11 = .ok (.dup, 1) := by decide +kernel
theorem dL_law_12 : decode cL_law 12 = .ok (.invokespecial 84, 3) := by decide +kernel
theorem dL_law_15 : decode cL_law 15 = .ok (.astore_n 2, 1) := by decide +kernel
theorem dL_law_16 : decode cL_law 16 = .ok (.iconst 1, 1) := by decide +kernel
theorem dL_law_17 : decode cL_law 17 = .ok (.newarray .long, 2) := by decide +kernel
theorem dL_law_19 : decode cL_law 19 = .ok (.astore_n 3, 1) := by decide +kernel
theorem dL_law_20 : decode cL_law 20 = .ok (.iconst 0, 1) := by decide +kernel
theorem dL_law_21 : decode cL_law 21 = .ok (.istore 4, 2) := by decide +kernel
theorem dL_law_23 : decode cL_law 23 = .ok (.iload 4, 2) := by decide +kernel
theorem dL_law_25 : decode cL_law 25 = .ok (.aload_n 0, 1) := by decide +kernel
theorem dL_law_26 : decode cL_law 26 = .ok (.arraylength, 1) := by decide +kernel
theorem dL_law_27 : decode cL_law 27 = .ok (.bipush 7, 2) := by decide +kernel
theorem dL_law_29 : decode cL_law 29 = .ok (.isub, 1) := by decide +kernel
theorem dL_law_30 : decode cL_law 30 = .ok (.if_icmp .gt 1615, 3) := by decide +kernel
theorem dL_law_33 : decode cL_law 33 = .ok (.aload_n 0, 1) := by decide +kernel
theorem dL_law_34 : decode cL_law 34 = .ok (.iload 4, 2) := by decide +kernel
theorem dL_law_36 : decode cL_law 36 = .ok (.iaload, 1) := by decide +kernel
theorem dL_law_37 : decode cL_law 37 = .ok (.bipush 31, 2) := by decide +kernel
theorem dL_law_39 : decode cL_law 39 = .ok (.iand, 1) := by decide +kernel
theorem dL_law_40 : decode cL_law 40 = .ok (.tableswitch 1599 0 27 #[128, 184, 302, 406, 486, 554, 567, 580, 648, 704, 717, 742, 798, 842, 910, 966, 1010, 1023, 1079, 1147, 1203, 1216, 1284, 1364, 1432, 1476, 1544, 1585], 128) := by decide +kernel
theorem dL_law_168 : decode cL_law 168 = .ok (.aload_n 1, 1) := by decide +kernel
theorem dL_law_169 : decode cL_law 169 = .ok (.aload_n 0, 1) := by decide +kernel
theorem dL_law_170 : decode cL_law 170 = .ok (.iload 4, 2) := by decide +kernel
theorem dL_law_172 : decode cL_law 172 = .ok (.iconst 1, 1) := by decide +kernel
theorem dL_law_173 : decode cL_law 173 = .ok (.iadd, 1) := by decide +kernel
theorem dL_law_174 : decode cL_law 174 = .ok (.iaload, 1) := by decide +kernel
theorem dL_law_175 : decode cL_law 175 = .ok (.aload_n 3, 1) := by decide +kernel
theorem dL_law_176 : decode cL_law 176 = .ok (.invokestatic 85, 3) := by decide +kernel
theorem dL_law_179 : decode cL_law 179 = .ok (.istore 5, 2) := by decide +kernel
theorem dL_law_181 : decode cL_law 181 = .ok (.aload_n 2, 1) := by decide +kernel
theorem dL_law_182 : decode cL_law 182 = .ok (.aload_n 0, 1) := by decide +kernel
theorem dL_law_183 : decode cL_law 183 = .ok (.iload 4, 2) := by decide +kernel
theorem dL_law_185 : decode cL_law 185 = .ok (.iconst 1, 1) := by decide +kernel
theorem dL_law_186 : decode cL_law 186 = .ok (.iadd, 1) := by decide +kernel
theorem dL_law_187 : decode cL_law 187 = .ok (.iaload, 1) := by decide +kernel
theorem dL_law_188 : decode cL_law 188 = .ok (.invokevirtual 90, 3) := by decide +kernel
theorem dL_law_191 : decode cL_law 191 = .ok (.istore 6, 2) := by decide +kernel
theorem dL_law_193 : decode cL_law 193 = .ok (.aload_n 2, 1) := by decide +kernel
theorem dL_law_194 : decode cL_law 194 = .ok (.invokevirtual 91, 3) := by decide +kernel
theorem dL_law_197 : decode cL_law 197 = .ok (.iload 5, 2) := by decide +kernel
theorem dL_law_199 : decode cL_law 199 = .ok (.if_icmp .eq 5, 3) := by decide +kernel
theorem dL_law_202 : decode cL_law 202 = .ok (.iconst 0, 1) := by decide +kernel
theorem dL_law_203 : decode cL_law 203 = .ok (.ireturn, 1) := by decide +kernel
theorem dL_law_204 : decode cL_law 204 = .ok (.iload 5, 2) := by decide +kernel
theorem dL_law_206 : decode cL_law 206 = .ok (.ifCond .ne 15, 3) := by decide +kernel
theorem dL_law_209 : decode cL_law 209 = .ok (.aload_n 3, 1) := by decide +kernel
theorem dL_law_210 : decode cL_law 210 = .ok (.iconst 0, 1) := by decide +kernel
theorem dL_law_211 : decode cL_law 211 = .ok (.laload, 1) := by decide +kernel
theorem dL_law_212 : decode cL_law 212 = .ok (.iload 6, 2) := by decide +kernel
theorem dL_law_214 : decode cL_law 214 = .ok (.i2l, 1) := by decide +kernel
theorem dL_law_215 : decode cL_law 215 = .ok (.lcmp, 1) := by decide +kernel
theorem dL_law_216 : decode cL_law 216 = .ok (.ifCond .eq 5, 3) := by decide +kernel
theorem dL_law_219 : decode cL_law 219 = .ok (.iconst 0, 1) := by decide +kernel
theorem dL_law_220 : decode cL_law 220 = .ok (.ireturn, 1) := by decide +kernel
theorem dL_law_221 : decode cL_law 221 = .ok (.goto 1418, 3) := by decide +kernel
theorem dL_law_224 : decode cL_law 224 = .ok (.aload_n 1, 1) := by decide +kernel
theorem dL_law_225 : decode cL_law 225 = .ok (.aload_n 0, 1) := by decide +kernel
theorem dL_law_226 : decode cL_law 226 = .ok (.iload 4, 2) := by decide +kernel
theorem dL_law_228 : decode cL_law 228 = .ok (.iconst 1, 1) := by decide +kernel
theorem dL_law_229 : decode cL_law 229 = .ok (.iadd, 1) := by decide +kernel
theorem dL_law_230 : decode cL_law 230 = .ok (.iaload, 1) := by decide +kernel
theorem dL_law_231 : decode cL_law 231 = .ok (.aload_n 0, 1) := by decide +kernel
theorem dL_law_232 : decode cL_law 232 = .ok (.iload 4, 2) := by decide +kernel
theorem dL_law_234 : decode cL_law 234 = .ok (.iconst 2, 1) := by decide +kernel
theorem dL_law_235 : decode cL_law 235 = .ok (.iadd, 1) := by decide +kernel
theorem dL_law_236 : decode cL_law 236 = .ok (.iaload, 1) := by decide +kernel
theorem dL_law_237 : decode cL_law 237 = .ok (.aload_n 0, 1) := by decide +kernel
theorem dL_law_238 : decode cL_law 238 = .ok (.iload 4, 2) := by decide +kernel
theorem dL_law_240 : decode cL_law 240 = .ok (.iconst 3, 1) := by decide +kernel
theorem dL_law_241 : decode cL_law 241 = .ok (.iadd, 1) := by decide +kernel
theorem dL_law_242 : decode cL_law 242 = .ok (.iaload, 1) := by decide +kernel
theorem dL_law_243 : decode cL_law 243 = .ok (.aload_n 0, 1) := by decide +kernel
theorem dL_law_244 : decode cL_law 244 = .ok (.iload 4, 2) := by decide +kernel
theorem dL_law_246 : decode cL_law 246 = .ok (.iconst 4, 1) := by decide +kernel
theorem dL_law_247 : decode cL_law 247 = .ok (.iadd, 1) := by decide +kernel
theorem dL_law_248 : decode cL_law 248 = .ok (.iaload, 1) := by decide +kernel
theorem dL_law_249 : decode cL_law 249 = .ok (.aload_n 0, 1) := by decide +kernel
theorem dL_law_250 : decode cL_law 250 = .ok (.iload 4, 2) := by decide +kernel
theorem dL_law_252 : decode cL_law 252 = .ok (.iconst 5, 1) := by decide +kernel
theorem dL_law_253 : decode cL_law 253 = .ok (.iadd, 1) := by decide +kernel
theorem dL_law_254 : decode cL_law 254 = .ok (.iaload, 1) := by decide +kernel
theorem dL_law_255 : decode cL_law 255 = .ok (.aload_n 0, 1) := by decide +kernel
theorem dL_law_256 : decode cL_law 256 = .ok (.iload 4, 2) := by decide +kernel
theorem dL_law_258 : decode cL_law 258 = .ok (.bipush 6, 2) := by decide +kernel
theorem dL_law_260 : decode cL_law 260 = .ok (.iadd, 1) := by decide +kernel
theorem dL_law_261 : decode cL_law 261 = .ok (.iaload, 1) := by decide +kernel
theorem dL_law_262 : decode cL_law 262 = .ok (.aload_n 3, 1) := by decide +kernel
theorem dL_law_263 : decode cL_law 263 = .ok (.invokestatic 94, 3) := by decide +kernel
theorem dL_law_266 : decode cL_law 266 = .ok (.istore 5, 2) := by decide +kernel
theorem dL_law_268 : decode cL_law 268 = .ok (.aload_n 2, 1) := by decide +kernel
theorem dL_law_269 : decode cL_law 269 = .ok (.aload_n 0, 1) := by decide +kernel
theorem dL_law_270 : decode cL_law 270 = .ok (.iload 4, 2) := by decide +kernel
theorem dL_law_272 : decode cL_law 272 = .ok (.iconst 1, 1) := by decide +kernel
theorem dL_law_273 : decode cL_law 273 = .ok (.iadd, 1) := by decide +kernel
theorem dL_law_274 : decode cL_law 274 = .ok (.iaload, 1) := by decide +kernel
theorem dL_law_275 : decode cL_law 275 = .ok (.aload_n 0, 1) := by decide +kernel
theorem dL_law_276 : decode cL_law 276 = .ok (.iload 4, 2) := by decide +kernel
theorem dL_law_278 : decode cL_law 278 = .ok (.iconst 2, 1) := by decide +kernel
theorem dL_law_279 : decode cL_law 279 = .ok (.iadd, 1) := by decide +kernel
theorem dL_law_280 : decode cL_law 280 = .ok (.iaload, 1) := by decide +kernel
theorem dL_law_281 : decode cL_law 281 = .ok (.aload_n 0, 1) := by decide +kernel
theorem dL_law_282 : decode cL_law 282 = .ok (.iload 4, 2) := by decide +kernel
theorem dL_law_284 : decode cL_law 284 = .ok (.iconst 3, 1) := by decide +kernel
theorem dL_law_285 : decode cL_law 285 = .ok (.iadd, 1) := by decide +kernel
theorem dL_law_286 : decode cL_law 286 = .ok (.iaload, 1) := by decide +kernel
theorem dL_law_287 : decode cL_law 287 = .ok (.aload_n 0, 1) := by decide +kernel
theorem dL_law_288 : decode cL_law 288 = .ok (.iload 4, 2) := by decide +kernel
theorem dL_law_290 : decode cL_law 290 = .ok (.iconst 4, 1) := by decide +kernel
theorem dL_law_291 : decode cL_law 291 = .ok (.iadd, 1) := by decide +kernel
theorem dL_law_292 : decode cL_law 292 = .ok (.iaload, 1) := by decide +kernel
theorem dL_law_293 : decode cL_law 293 = .ok (.aload_n 0, 1) := by decide +kernel
theorem dL_law_294 : decode cL_law 294 = .ok (.iload 4, 2) := by decide +kernel
theorem dL_law_296 : decode cL_law 296 = .ok (.iconst 5, 1) := by decide +kernel
theorem dL_law_297 : decode cL_law 297 = .ok (.iadd, 1) := by decide +kernel
theorem dL_law_298 : decode cL_law 298 = .ok (.iaload, 1) := by decide +kernel
theorem dL_law_299 : decode cL_law 299 = .ok (.aload_n 0, 1) := by decide +kernel
theorem dL_law_300 : decode cL_law 300 = .ok (.iload 4, 2) := by decide +kernel
theorem dL_law_302 : decode cL_law 302 = .ok (.bipush 6, 2) := by decide +kernel
theorem dL_law_304 : decode cL_law 304 = .ok (.iadd, 1) := by decide +kernel
theorem dL_law_305 : decode cL_law 305 = .ok (.iaload, 1) := by decide +kernel
theorem dL_law_306 : decode cL_law 306 = .ok (.invokevirtual 97, 3) := by decide +kernel
theorem dL_law_309 : decode cL_law 309 = .ok (.istore 6, 2) := by decide +kernel
theorem dL_law_311 : decode cL_law 311 = .ok (.aload_n 2, 1) := by decide +kernel
theorem dL_law_312 : decode cL_law 312 = .ok (.invokevirtual 91, 3) := by decide +kernel
theorem dL_law_315 : decode cL_law 315 = .ok (.iload 5, 2) := by decide +kernel
theorem dL_law_317 : decode cL_law 317 = .ok (.if_icmp .eq 5, 3) := by decide +kernel
theorem dL_law_320 : decode cL_law 320 = .ok (.iconst 0, 1) := by decide +kernel
theorem dL_law_321 : decode cL_law 321 = .ok (.ireturn, 1) := by decide +kernel
theorem dL_law_322 : decode cL_law 322 = .ok (.iload 5, 2) := by decide +kernel
theorem dL_law_324 : decode cL_law 324 = .ok (.ifCond .ne 15, 3) := by decide +kernel
theorem dL_law_327 : decode cL_law 327 = .ok (.aload_n 3, 1) := by decide +kernel
theorem dL_law_328 : decode cL_law 328 = .ok (.iconst 0, 1) := by decide +kernel
theorem dL_law_329 : decode cL_law 329 = .ok (.laload, 1) := by decide +kernel
theorem dL_law_330 : decode cL_law 330 = .ok (.iload 6, 2) := by decide +kernel
theorem dL_law_332 : decode cL_law 332 = .ok (.i2l, 1) := by decide +kernel
theorem dL_law_333 : decode cL_law 333 = .ok (.lcmp, 1) := by decide +kernel
theorem dL_law_334 : decode cL_law 334 = .ok (.ifCond .eq 5, 3) := by decide +kernel
theorem dL_law_337 : decode cL_law 337 = .ok (.iconst 0, 1) := by decide +kernel
theorem dL_law_338 : decode cL_law 338 = .ok (.ireturn, 1) := by decide +kernel
theorem dL_law_339 : decode cL_law 339 = .ok (.goto 1300, 3) := by decide +kernel
theorem dL_law_342 : decode cL_law 342 = .ok (.aload_n 1, 1) := by decide +kernel
theorem dL_law_343 : decode cL_law 343 = .ok (.aload_n 0, 1) := by decide +kernel
theorem dL_law_344 : decode cL_law 344 = .ok (.iload 4, 2) := by decide +kernel
theorem dL_law_346 : decode cL_law 346 = .ok (.iconst 1, 1) := by decide +kernel
theorem dL_law_347 : decode cL_law 347 = .ok (.iadd, 1) := by decide +kernel
theorem dL_law_348 : decode cL_law 348 = .ok (.iaload, 1) := by decide +kernel
theorem dL_law_349 : decode cL_law 349 = .ok (.aload_n 0, 1) := by decide +kernel
theorem dL_law_350 : decode cL_law 350 = .ok (.iload 4, 2) := by decide +kernel
theorem dL_law_352 : decode cL_law 352 = .ok (.iconst 2, 1) := by decide +kernel
theorem dL_law_353 : decode cL_law 353 = .ok (.iadd, 1) := by decide +kernel
theorem dL_law_354 : decode cL_law 354 = .ok (.iaload, 1) := by decide +kernel
theorem dL_law_355 : decode cL_law 355 = .ok (.aload_n 0, 1) := by decide +kernel
theorem dL_law_356 : decode cL_law 356 = .ok (.iload 4, 2) := by decide +kernel
theorem dL_law_358 : decode cL_law 358 = .ok (.iconst 3, 1) := by decide +kernel
theorem dL_law_359 : decode cL_law 359 = .ok (.iadd, 1) := by decide +kernel
theorem dL_law_360 : decode cL_law 360 = .ok (.iaload, 1) := by decide +kernel
theorem dL_law_361 : decode cL_law 361 = .ok (.aload_n 0, 1) := by decide +kernel
theorem dL_law_362 : decode cL_law 362 = .ok (.iload 4, 2) := by decide +kernel
theorem dL_law_364 : decode cL_law 364 = .ok (.iconst 4, 1) := by decide +kernel
theorem dL_law_365 : decode cL_law 365 = .ok (.iadd, 1) := by decide +kernel
theorem dL_law_366 : decode cL_law 366 = .ok (.iaload, 1) := by decide +kernel
theorem dL_law_367 : decode cL_law 367 = .ok (.aload_n 0, 1) := by decide +kernel
theorem dL_law_368 : decode cL_law 368 = .ok (.iload 4, 2) := by decide +kernel
theorem dL_law_370 : decode cL_law 370 = .ok (.iconst 5, 1) := by decide +kernel
theorem dL_law_371 : decode cL_law 371 = .ok (.iadd, 1) := by decide +kernel
theorem dL_law_372 : decode cL_law 372 = .ok (.iaload, 1) := by decide +kernel
theorem dL_law_373 : decode cL_law 373 = .ok (.aload_n 3, 1) := by decide +kernel
theorem dL_law_374 : decode cL_law 374 = .ok (.invokestatic 98, 3) := by decide +kernel
theorem dL_law_377 : decode cL_law 377 = .ok (.istore 5, 2) := by decide +kernel
theorem dL_law_379 : decode cL_law 379 = .ok (.aload_n 2, 1) := by decide +kernel
theorem dL_law_380 : decode cL_law 380 = .ok (.aload_n 0, 1) := by decide +kernel
theorem dL_law_381 : decode cL_law 381 = .ok (.iload 4, 2) := by decide +kernel
theorem dL_law_383 : decode cL_law 383 = .ok (.iconst 1, 1) := by decide +kernel
theorem dL_law_384 : decode cL_law 384 = .ok (.iadd, 1) := by decide +kernel
theorem dL_law_385 : decode cL_law 385 = .ok (.iaload, 1) := by decide +kernel
theorem dL_law_386 : decode cL_law 386 = .ok (.aload_n 0, 1) := by decide +kernel
theorem dL_law_387 : decode cL_law 387 = .ok (.iload 4, 2) := by decide +kernel
theorem dL_law_389 : decode cL_law 389 = .ok (.iconst 2, 1) := by decide +kernel
theorem dL_law_390 : decode cL_law 390 = .ok (.iadd, 1) := by decide +kernel
theorem dL_law_391 : decode cL_law 391 = .ok (.iaload, 1) := by decide +kernel
theorem dL_law_392 : decode cL_law 392 = .ok (.aload_n 0, 1) := by decide +kernel
theorem dL_law_393 : decode cL_law 393 = .ok (.iload 4, 2) := by decide +kernel
theorem dL_law_395 : decode cL_law 395 = .ok (.iconst 3, 1) := by decide +kernel
theorem dL_law_396 : decode cL_law 396 = .ok (.iadd, 1) := by decide +kernel
theorem dL_law_397 : decode cL_law 397 = .ok (.iaload, 1) := by decide +kernel
theorem dL_law_398 : decode cL_law 398 = .ok (.aload_n 0, 1) := by decide +kernel
theorem dL_law_399 : decode cL_law 399 = .ok (.iload 4, 2) := by decide +kernel
theorem dL_law_401 : decode cL_law 401 = .ok (.iconst 4, 1) := by decide +kernel
theorem dL_law_402 : decode cL_law 402 = .ok (.iadd, 1) := by decide +kernel
theorem dL_law_403 : decode cL_law 403 = .ok (.iaload, 1) := by decide +kernel
theorem dL_law_404 : decode cL_law 404 = .ok (.aload_n 0, 1) := by decide +kernel
theorem dL_law_405 : decode cL_law 405 = .ok (.iload 4, 2) := by decide +kernel
theorem dL_law_407 : decode cL_law 407 = .ok (.iconst 5, 1) := by decide +kernel
theorem dL_law_408 : decode cL_law 408 = .ok (.iadd, 1) := by decide +kernel
theorem dL_law_409 : decode cL_law 409 = .ok (.iaload, 1) := by decide +kernel
theorem dL_law_410 : decode cL_law 410 = .ok (.invokevirtual 101, 3) := by decide +kernel
theorem dL_law_413 : decode cL_law 413 = .ok (.istore 6, 2) := by decide +kernel
theorem dL_law_415 : decode cL_law 415 = .ok (.aload_n 2, 1) := by decide +kernel
theorem dL_law_416 : decode cL_law 416 = .ok (.invokevirtual 91, 3) := by decide +kernel
theorem dL_law_419 : decode cL_law 419 = .ok (.iload 5, 2) := by decide +kernel
theorem dL_law_421 : decode cL_law 421 = .ok (.if_icmp .eq 5, 3) := by decide +kernel
theorem dL_law_424 : decode cL_law 424 = .ok (.iconst 0, 1) := by decide +kernel
theorem dL_law_425 : decode cL_law 425 = .ok (.ireturn, 1) := by decide +kernel
theorem dL_law_426 : decode cL_law 426 = .ok (.iload 5, 2) := by decide +kernel
theorem dL_law_428 : decode cL_law 428 = .ok (.ifCond .ne 15, 3) := by decide +kernel
theorem dL_law_431 : decode cL_law 431 = .ok (.aload_n 3, 1) := by decide +kernel
theorem dL_law_432 : decode cL_law 432 = .ok (.iconst 0, 1) := by decide +kernel
theorem dL_law_433 : decode cL_law 433 = .ok (.laload, 1) := by decide +kernel
theorem dL_law_434 : decode cL_law 434 = .ok (.iload 6, 2) := by decide +kernel
theorem dL_law_436 : decode cL_law 436 = .ok (.i2l, 1) := by decide +kernel
theorem dL_law_437 : decode cL_law 437 = .ok (.lcmp, 1) := by decide +kernel
theorem dL_law_438 : decode cL_law 438 = .ok (.ifCond .eq 5, 3) := by decide +kernel
theorem dL_law_441 : decode cL_law 441 = .ok (.iconst 0, 1) := by decide +kernel
theorem dL_law_442 : decode cL_law 442 = .ok (.ireturn, 1) := by decide +kernel
theorem dL_law_443 : decode cL_law 443 = .ok (.goto 1196, 3) := by decide +kernel
theorem dL_law_446 : decode cL_law 446 = .ok (.aload_n 1, 1) := by decide +kernel
theorem dL_law_447 : decode cL_law 447 = .ok (.aload_n 0, 1) := by decide +kernel
theorem dL_law_448 : decode cL_law 448 = .ok (.iload 4, 2) := by decide +kernel
theorem dL_law_450 : decode cL_law 450 = .ok (.iconst 1, 1) := by decide +kernel
theorem dL_law_451 : decode cL_law 451 = .ok (.iadd, 1) := by decide +kernel
theorem dL_law_452 : decode cL_law 452 = .ok (.iaload, 1) := by decide +kernel
theorem dL_law_453 : decode cL_law 453 = .ok (.aload_n 0, 1) := by decide +kernel
theorem dL_law_454 : decode cL_law 454 = .ok (.iload 4, 2) := by decide +kernel
theorem dL_law_456 : decode cL_law 456 = .ok (.iconst 2, 1) := by decide +kernel
theorem dL_law_457 : decode cL_law 457 = .ok (.iadd, 1) := by decide +kernel
theorem dL_law_458 : decode cL_law 458 = .ok (.iaload, 1) := by decide +kernel
theorem dL_law_459 : decode cL_law 459 = .ok (.aload_n 0, 1) := by decide +kernel
theorem dL_law_460 : decode cL_law 460 = .ok (.iload 4, 2) := by decide +kernel
theorem dL_law_462 : decode cL_law 462 = .ok (.iconst 3, 1) := by decide +kernel
theorem dL_law_463 : decode cL_law 463 = .ok (.iadd, 1) := by decide +kernel
theorem dL_law_464 : decode cL_law 464 = .ok (.iaload, 1) := by decide +kernel
theorem dL_law_465 : decode cL_law 465 = .ok (.aload_n 3, 1) := by decide +kernel
theorem dL_law_466 : decode cL_law 466 = .ok (.invokestatic 102, 3) := by decide +kernel
theorem dL_law_469 : decode cL_law 469 = .ok (.istore 5, 2) := by decide +kernel
theorem dL_law_471 : decode cL_law 471 = .ok (.aload_n 2, 1) := by decide +kernel
theorem dL_law_472 : decode cL_law 472 = .ok (.aload_n 0, 1) := by decide +kernel
theorem dL_law_473 : decode cL_law 473 = .ok (.iload 4, 2) := by decide +kernel
theorem dL_law_475 : decode cL_law 475 = .ok (.iconst 1, 1) := by decide +kernel
theorem dL_law_476 : decode cL_law 476 = .ok (.iadd, 1) := by decide +kernel
theorem dL_law_477 : decode cL_law 477 = .ok (.iaload, 1) := by decide +kernel
theorem dL_law_478 : decode cL_law 478 = .ok (.aload_n 0, 1) := by decide +kernel
theorem dL_law_479 : decode cL_law 479 = .ok (.iload 4, 2) := by decide +kernel
theorem dL_law_481 : decode cL_law 481 = .ok (.iconst 2, 1) := by decide +kernel
theorem dL_law_482 : decode cL_law 482 = .ok (.iadd, 1) := by decide +kernel
theorem dL_law_483 : decode cL_law 483 = .ok (.iaload, 1) := by decide +kernel
theorem dL_law_484 : decode cL_law 484 = .ok (.aload_n 0, 1) := by decide +kernel
theorem dL_law_485 : decode cL_law 485 = .ok (.iload 4, 2) := by decide +kernel
theorem dL_law_487 : decode cL_law 487 = .ok (.iconst 3, 1) := by decide +kernel
theorem dL_law_488 : decode cL_law 488 = .ok (.iadd, 1) := by decide +kernel
theorem dL_law_489 : decode cL_law 489 = .ok (.iaload, 1) := by decide +kernel
theorem dL_law_490 : decode cL_law 490 = .ok (.invokevirtual 105, 3) := by decide +kernel
theorem dL_law_493 : decode cL_law 493 = .ok (.istore 6, 2) := by decide +kernel
theorem dL_law_495 : decode cL_law 495 = .ok (.aload_n 2, 1) := by decide +kernel
theorem dL_law_496 : decode cL_law 496 = .ok (.invokevirtual 91, 3) := by decide +kernel
theorem dL_law_499 : decode cL_law 499 = .ok (.iload 5, 2) := by decide +kernel
theorem dL_law_501 : decode cL_law 501 = .ok (.if_icmp .eq 5, 3) := by decide +kernel
theorem dL_law_504 : decode cL_law 504 = .ok (.iconst 0, 1) := by decide +kernel
theorem dL_law_505 : decode cL_law 505 = .ok (.ireturn, 1) := by decide +kernel
theorem dL_law_506 : decode cL_law 506 = .ok (.iload 5, 2) := by decide +kernel
theorem dL_law_508 : decode cL_law 508 = .ok (.ifCond .ne 15, 3) := by decide +kernel
theorem dL_law_511 : decode cL_law 511 = .ok (.aload_n 3, 1) := by decide +kernel
theorem dL_law_512 : decode cL_law 512 = .ok (.iconst 0, 1) := by decide +kernel
theorem dL_law_513 : decode cL_law 513 = .ok (.laload, 1) := by decide +kernel
theorem dL_law_514 : decode cL_law 514 = .ok (.iload 6, 2) := by decide +kernel
theorem dL_law_516 : decode cL_law 516 = .ok (.i2l, 1) := by decide +kernel
theorem dL_law_517 : decode cL_law 517 = .ok (.lcmp, 1) := by decide +kernel
theorem dL_law_518 : decode cL_law 518 = .ok (.ifCond .eq 5, 3) := by decide +kernel
theorem dL_law_521 : decode cL_law 521 = .ok (.iconst 0, 1) := by decide +kernel
theorem dL_law_522 : decode cL_law 522 = .ok (.ireturn, 1) := by decide +kernel
theorem dL_law_523 : decode cL_law 523 = .ok (.goto 1116, 3) := by decide +kernel
theorem dL_law_526 : decode cL_law 526 = .ok (.aload_n 1, 1) := by decide +kernel
theorem dL_law_527 : decode cL_law 527 = .ok (.aload_n 0, 1) := by decide +kernel
theorem dL_law_528 : decode cL_law 528 = .ok (.iload 4, 2) := by decide +kernel
theorem dL_law_530 : decode cL_law 530 = .ok (.iconst 1, 1) := by decide +kernel
theorem dL_law_531 : decode cL_law 531 = .ok (.iadd, 1) := by decide +kernel
theorem dL_law_532 : decode cL_law 532 = .ok (.iaload, 1) := by decide +kernel
theorem dL_law_533 : decode cL_law 533 = .ok (.aload_n 0, 1) := by decide +kernel
theorem dL_law_534 : decode cL_law 534 = .ok (.iload 4, 2) := by decide +kernel
theorem dL_law_536 : decode cL_law 536 = .ok (.iconst 2, 1) := by decide +kernel
theorem dL_law_537 : decode cL_law 537 = .ok (.iadd, 1) := by decide +kernel
theorem dL_law_538 : decode cL_law 538 = .ok (.iaload, 1) := by decide +kernel
theorem dL_law_539 : decode cL_law 539 = .ok (.aload_n 3, 1) := by decide +kernel
theorem dL_law_540 : decode cL_law 540 = .ok (.invokestatic 106, 3) := by decide +kernel
theorem dL_law_543 : decode cL_law 543 = .ok (.istore 5, 2) := by decide +kernel
theorem dL_law_545 : decode cL_law 545 = .ok (.aload_n 2, 1) := by decide +kernel
theorem dL_law_546 : decode cL_law 546 = .ok (.aload_n 0, 1) := by decide +kernel
theorem dL_law_547 : decode cL_law 547 = .ok (.iload 4, 2) := by decide +kernel
theorem dL_law_549 : decode cL_law 549 = .ok (.iconst 1, 1) := by decide +kernel
theorem dL_law_550 : decode cL_law 550 = .ok (.iadd, 1) := by decide +kernel
theorem dL_law_551 : decode cL_law 551 = .ok (.iaload, 1) := by decide +kernel
theorem dL_law_552 : decode cL_law 552 = .ok (.aload_n 0, 1) := by decide +kernel
theorem dL_law_553 : decode cL_law 553 = .ok (.iload 4, 2) := by decide +kernel
theorem dL_law_555 : decode cL_law 555 = .ok (.iconst 2, 1) := by decide +kernel
theorem dL_law_556 : decode cL_law 556 = .ok (.iadd, 1) := by decide +kernel
theorem dL_law_557 : decode cL_law 557 = .ok (.iaload, 1) := by decide +kernel
theorem dL_law_558 : decode cL_law 558 = .ok (.invokevirtual 109, 3) := by decide +kernel
theorem dL_law_561 : decode cL_law 561 = .ok (.istore 6, 2) := by decide +kernel
theorem dL_law_563 : decode cL_law 563 = .ok (.aload_n 2, 1) := by decide +kernel
theorem dL_law_564 : decode cL_law 564 = .ok (.invokevirtual 91, 3) := by decide +kernel
theorem dL_law_567 : decode cL_law 567 = .ok (.iload 5, 2) := by decide +kernel
theorem dL_law_569 : decode cL_law 569 = .ok (.if_icmp .eq 5, 3) := by decide +kernel
theorem dL_law_572 : decode cL_law 572 = .ok (.iconst 0, 1) := by decide +kernel
theorem dL_law_573 : decode cL_law 573 = .ok (.ireturn, 1) := by decide +kernel
theorem dL_law_574 : decode cL_law 574 = .ok (.iload 5, 2) := by decide +kernel
theorem dL_law_576 : decode cL_law 576 = .ok (.ifCond .ne 15, 3) := by decide +kernel
theorem dL_law_579 : decode cL_law 579 = .ok (.aload_n 3, 1) := by decide +kernel
theorem dL_law_580 : decode cL_law 580 = .ok (.iconst 0, 1) := by decide +kernel
theorem dL_law_581 : decode cL_law 581 = .ok (.laload, 1) := by decide +kernel
theorem dL_law_582 : decode cL_law 582 = .ok (.iload 6, 2) := by decide +kernel
theorem dL_law_584 : decode cL_law 584 = .ok (.i2l, 1) := by decide +kernel
theorem dL_law_585 : decode cL_law 585 = .ok (.lcmp, 1) := by decide +kernel
theorem dL_law_586 : decode cL_law 586 = .ok (.ifCond .eq 5, 3) := by decide +kernel
theorem dL_law_589 : decode cL_law 589 = .ok (.iconst 0, 1) := by decide +kernel
theorem dL_law_590 : decode cL_law 590 = .ok (.ireturn, 1) := by decide +kernel
theorem dL_law_591 : decode cL_law 591 = .ok (.goto 1048, 3) := by decide +kernel
theorem dL_law_594 : decode cL_law 594 = .ok (.aload_n 1, 1) := by decide +kernel
theorem dL_law_595 : decode cL_law 595 = .ok (.invokevirtual 110, 3) := by decide +kernel
theorem dL_law_598 : decode cL_law 598 = .ok (.aload_n 2, 1) := by decide +kernel
theorem dL_law_599 : decode cL_law 599 = .ok (.invokevirtual 113, 3) := by decide +kernel
theorem dL_law_602 : decode cL_law 602 = .ok (.if_icmp .eq 1037, 3) := by decide +kernel
theorem dL_law_605 : decode cL_law 605 = .ok (.iconst 0, 1) := by decide +kernel
theorem dL_law_606 : decode cL_law 606 = .ok (.ireturn, 1) := by decide +kernel
theorem dL_law_607 : decode cL_law 607 = .ok (.aload_n 1, 1) := by decide +kernel
theorem dL_law_608 : decode cL_law 608 = .ok (.invokevirtual 114, 3) := by decide +kernel
theorem dL_law_611 : decode cL_law 611 = .ok (.aload_n 2, 1) := by decide +kernel
theorem dL_law_612 : decode cL_law 612 = .ok (.invokevirtual 117, 3) := by decide +kernel
theorem dL_law_615 : decode cL_law 615 = .ok (.if_icmp .eq 1024, 3) := by decide +kernel
theorem dL_law_618 : decode cL_law 618 = .ok (.iconst 0, 1) := by decide +kernel
theorem dL_law_619 : decode cL_law 619 = .ok (.ireturn, 1) := by decide +kernel
theorem dL_law_620 : decode cL_law 620 = .ok (.aload_n 1, 1) := by decide +kernel
theorem dL_law_621 : decode cL_law 621 = .ok (.aload_n 0, 1) := by decide +kernel
theorem dL_law_622 : decode cL_law 622 = .ok (.iload 4, 2) := by decide +kernel
theorem dL_law_624 : decode cL_law 624 = .ok (.iconst 1, 1) := by decide +kernel
theorem dL_law_625 : decode cL_law 625 = .ok (.iadd, 1) := by decide +kernel
theorem dL_law_626 : decode cL_law 626 = .ok (.iaload, 1) := by decide +kernel
theorem dL_law_627 : decode cL_law 627 = .ok (.aload_n 0, 1) := by decide +kernel
theorem dL_law_628 : decode cL_law 628 = .ok (.iload 4, 2) := by decide +kernel
theorem dL_law_630 : decode cL_law 630 = .ok (.iconst 2, 1) := by decide +kernel
theorem dL_law_631 : decode cL_law 631 = .ok (.iadd, 1) := by decide +kernel
theorem dL_law_632 : decode cL_law 632 = .ok (.iaload, 1) := by decide +kernel
theorem dL_law_633 : decode cL_law 633 = .ok (.aload_n 3, 1) := by decide +kernel
theorem dL_law_634 : decode cL_law 634 = .ok (.invokestatic 118, 3) := by decide +kernel
theorem dL_law_637 : decode cL_law 637 = .ok (.istore 5, 2) := by decide +kernel
theorem dL_law_639 : decode cL_law 639 = .ok (.aload_n 2, 1) := by decide +kernel
theorem dL_law_640 : decode cL_law 640 = .ok (.aload_n 0, 1) := by decide +kernel
theorem dL_law_641 : decode cL_law 641 = .ok (.iload 4, 2) := by decide +kernel
theorem dL_law_643 : decode cL_law 643 = .ok (.iconst 1, 1) := by decide +kernel
theorem dL_law_644 : decode cL_law 644 = .ok (.iadd, 1) := by decide +kernel
theorem dL_law_645 : decode cL_law 645 = .ok (.iaload, 1) := by decide +kernel
theorem dL_law_646 : decode cL_law 646 = .ok (.aload_n 0, 1) := by decide +kernel
theorem dL_law_647 : decode cL_law 647 = .ok (.iload 4, 2) := by decide +kernel
theorem dL_law_649 : decode cL_law 649 = .ok (.iconst 2, 1) := by decide +kernel
theorem dL_law_650 : decode cL_law 650 = .ok (.iadd, 1) := by decide +kernel
theorem dL_law_651 : decode cL_law 651 = .ok (.iaload, 1) := by decide +kernel
theorem dL_law_652 : decode cL_law 652 = .ok (.invokevirtual 120, 3) := by decide +kernel
theorem dL_law_655 : decode cL_law 655 = .ok (.istore 6, 2) := by decide +kernel
theorem dL_law_657 : decode cL_law 657 = .ok (.aload_n 2, 1) := by decide +kernel
theorem dL_law_658 : decode cL_law 658 = .ok (.invokevirtual 91, 3) := by decide +kernel
theorem dL_law_661 : decode cL_law 661 = .ok (.iload 5, 2) := by decide +kernel
theorem dL_law_663 : decode cL_law 663 = .ok (.if_icmp .eq 5, 3) := by decide +kernel
theorem dL_law_666 : decode cL_law 666 = .ok (.iconst 0, 1) := by decide +kernel
theorem dL_law_667 : decode cL_law 667 = .ok (.ireturn, 1) := by decide +kernel
theorem dL_law_668 : decode cL_law 668 = .ok (.iload 5, 2) := by decide +kernel
theorem dL_law_670 : decode cL_law 670 = .ok (.ifCond .ne 15, 3) := by decide +kernel
theorem dL_law_673 : decode cL_law 673 = .ok (.aload_n 3, 1) := by decide +kernel
theorem dL_law_674 : decode cL_law 674 = .ok (.iconst 0, 1) := by decide +kernel
theorem dL_law_675 : decode cL_law 675 = .ok (.laload, 1) := by decide +kernel
theorem dL_law_676 : decode cL_law 676 = .ok (.iload 6, 2) := by decide +kernel
theorem dL_law_678 : decode cL_law 678 = .ok (.i2l, 1) := by decide +kernel
theorem dL_law_679 : decode cL_law 679 = .ok (.lcmp, 1) := by decide +kernel
theorem dL_law_680 : decode cL_law 680 = .ok (.ifCond .eq 5, 3) := by decide +kernel
theorem dL_law_683 : decode cL_law 683 = .ok (.iconst 0, 1) := by decide +kernel
theorem dL_law_684 : decode cL_law 684 = .ok (.ireturn, 1) := by decide +kernel
theorem dL_law_685 : decode cL_law 685 = .ok (.goto 954, 3) := by decide +kernel
theorem dL_law_688 : decode cL_law 688 = .ok (.aload_n 1, 1) := by decide +kernel
theorem dL_law_689 : decode cL_law 689 = .ok (.aload_n 0, 1) := by decide +kernel
theorem dL_law_690 : decode cL_law 690 = .ok (.iload 4, 2) := by decide +kernel
theorem dL_law_692 : decode cL_law 692 = .ok (.iconst 1, 1) := by decide +kernel
theorem dL_law_693 : decode cL_law 693 = .ok (.iadd, 1) := by decide +kernel
theorem dL_law_694 : decode cL_law 694 = .ok (.iaload, 1) := by decide +kernel
theorem dL_law_695 : decode cL_law 695 = .ok (.aload_n 3, 1) := by decide +kernel
theorem dL_law_696 : decode cL_law 696 = .ok (.invokestatic 121, 3) := by decide +kernel
theorem dL_law_699 : decode cL_law 699 = .ok (.istore 5, 2) := by decide +kernel
theorem dL_law_701 : decode cL_law 701 = .ok (.aload_n 2, 1) := by decide +kernel
theorem dL_law_702 : decode cL_law 702 = .ok (.aload_n 0, 1) := by decide +kernel
theorem dL_law_703 : decode cL_law 703 = .ok (.iload 4, 2) := by decide +kernel
theorem dL_law_705 : decode cL_law 705 = .ok (.iconst 1, 1) := by decide +kernel
theorem dL_law_706 : decode cL_law 706 = .ok (.iadd, 1) := by decide +kernel
theorem dL_law_707 : decode cL_law 707 = .ok (.iaload, 1) := by decide +kernel
theorem dL_law_708 : decode cL_law 708 = .ok (.invokevirtual 123, 3) := by decide +kernel
theorem dL_law_711 : decode cL_law 711 = .ok (.istore 6, 2) := by decide +kernel
theorem dL_law_713 : decode cL_law 713 = .ok (.aload_n 2, 1) := by decide +kernel
theorem dL_law_714 : decode cL_law 714 = .ok (.invokevirtual 91, 3) := by decide +kernel
theorem dL_law_717 : decode cL_law 717 = .ok (.iload 5, 2) := by decide +kernel
theorem dL_law_719 : decode cL_law 719 = .ok (.if_icmp .eq 5, 3) := by decide +kernel
theorem dL_law_722 : decode cL_law 722 = .ok (.iconst 0, 1) := by decide +kernel
theorem dL_law_723 : decode cL_law 723 = .ok (.ireturn, 1) := by decide +kernel
theorem dL_law_724 : decode cL_law 724 = .ok (.iload 5, 2) := by decide +kernel
theorem dL_law_726 : decode cL_law 726 = .ok (.ifCond .ne 15, 3) := by decide +kernel
theorem dL_law_729 : decode cL_law 729 = .ok (.aload_n 3, 1) := by decide +kernel
theorem dL_law_730 : decode cL_law 730 = .ok (.iconst 0, 1) := by decide +kernel
theorem dL_law_731 : decode cL_law 731 = .ok (.laload, 1) := by decide +kernel
theorem dL_law_732 : decode cL_law 732 = .ok (.iload 6, 2) := by decide +kernel
theorem dL_law_734 : decode cL_law 734 = .ok (.i2l, 1) := by decide +kernel
theorem dL_law_735 : decode cL_law 735 = .ok (.lcmp, 1) := by decide +kernel
theorem dL_law_736 : decode cL_law 736 = .ok (.ifCond .eq 5, 3) := by decide +kernel
theorem dL_law_739 : decode cL_law 739 = .ok (.iconst 0, 1) := by decide +kernel
theorem dL_law_740 : decode cL_law 740 = .ok (.ireturn, 1) := by decide +kernel
theorem dL_law_741 : decode cL_law 741 = .ok (.goto 898, 3) := by decide +kernel
theorem dL_law_744 : decode cL_law 744 = .ok (.aload_n 1, 1) := by decide +kernel
theorem dL_law_745 : decode cL_law 745 = .ok (.invokevirtual 124, 3) := by decide +kernel
theorem dL_law_748 : decode cL_law 748 = .ok (.aload_n 2, 1) := by decide +kernel
theorem dL_law_749 : decode cL_law 749 = .ok (.invokevirtual 127, 3) := by decide +kernel
theorem dL_law_752 : decode cL_law 752 = .ok (.if_icmp .eq 887, 3) := by decide +kernel
theorem dL_law_755 : decode cL_law 755 = .ok (.iconst 0, 1) := by decide +kernel
theorem dL_law_756 : decode cL_law 756 = .ok (.ireturn, 1) := by decide +kernel
theorem dL_law_757 : decode cL_law 757 = .ok (.aload_n 1, 1) := by decide +kernel
theorem dL_law_758 : decode cL_law 758 = .ok (.aload_n 0, 1) := by decide +kernel
theorem dL_law_759 : decode cL_law 759 = .ok (.iload 4, 2) := by decide +kernel
theorem dL_law_761 : decode cL_law 761 = .ok (.iconst 1, 1) := by decide +kernel
theorem dL_law_762 : decode cL_law 762 = .ok (.iadd, 1) := by decide +kernel
theorem dL_law_763 : decode cL_law 763 = .ok (.iaload, 1) := by decide +kernel
theorem dL_law_764 : decode cL_law 764 = .ok (.invokevirtual 128, 3) := by decide +kernel
theorem dL_law_767 : decode cL_law 767 = .ok (.aload_n 2, 1) := by decide +kernel
theorem dL_law_768 : decode cL_law 768 = .ok (.aload_n 0, 1) := by decide +kernel
theorem dL_law_769 : decode cL_law 769 = .ok (.iload 4, 2) := by decide +kernel
theorem dL_law_771 : decode cL_law 771 = .ok (.iconst 1, 1) := by decide +kernel
theorem dL_law_772 : decode cL_law 772 = .ok (.iadd, 1) := by decide +kernel
theorem dL_law_773 : decode cL_law 773 = .ok (.iaload, 1) := by decide +kernel
theorem dL_law_774 : decode cL_law 774 = .ok (.invokevirtual 131, 3) := by decide +kernel
theorem dL_law_777 : decode cL_law 777 = .ok (.if_icmp .eq 862, 3) := by decide +kernel
theorem dL_law_780 : decode cL_law 780 = .ok (.iconst 0, 1) := by decide +kernel
theorem dL_law_781 : decode cL_law 781 = .ok (.ireturn, 1) := by decide +kernel
theorem dL_law_782 : decode cL_law 782 = .ok (.aload_n 1, 1) := by decide +kernel
theorem dL_law_783 : decode cL_law 783 = .ok (.aload_n 0, 1) := by decide +kernel
theorem dL_law_784 : decode cL_law 784 = .ok (.iload 4, 2) := by decide +kernel
theorem dL_law_786 : decode cL_law 786 = .ok (.iconst 1, 1) := by decide +kernel
theorem dL_law_787 : decode cL_law 787 = .ok (.iadd, 1) := by decide +kernel
theorem dL_law_788 : decode cL_law 788 = .ok (.iaload, 1) := by decide +kernel
theorem dL_law_789 : decode cL_law 789 = .ok (.aload_n 3, 1) := by decide +kernel
theorem dL_law_790 : decode cL_law 790 = .ok (.invokestatic 132, 3) := by decide +kernel
theorem dL_law_793 : decode cL_law 793 = .ok (.istore 5, 2) := by decide +kernel
theorem dL_law_795 : decode cL_law 795 = .ok (.aload_n 2, 1) := by decide +kernel
theorem dL_law_796 : decode cL_law 796 = .ok (.aload_n 0, 1) := by decide +kernel
theorem dL_law_797 : decode cL_law 797 = .ok (.iload 4, 2) := by decide +kernel
theorem dL_law_799 : decode cL_law 799 = .ok (.iconst 1, 1) := by decide +kernel
theorem dL_law_800 : decode cL_law 800 = .ok (.iadd, 1) := by decide +kernel
theorem dL_law_801 : decode cL_law 801 = .ok (.iaload, 1) := by decide +kernel
theorem dL_law_802 : decode cL_law 802 = .ok (.invokevirtual 134, 3) := by decide +kernel
theorem dL_law_805 : decode cL_law 805 = .ok (.istore 6, 2) := by decide +kernel
theorem dL_law_807 : decode cL_law 807 = .ok (.aload_n 2, 1) := by decide +kernel
theorem dL_law_808 : decode cL_law 808 = .ok (.invokevirtual 91, 3) := by decide +kernel
theorem dL_law_811 : decode cL_law 811 = .ok (.iload 5, 2) := by decide +kernel
theorem dL_law_813 : decode cL_law 813 = .ok (.if_icmp .eq 5, 3) := by decide +kernel
theorem dL_law_816 : decode cL_law 816 = .ok (.iconst 0, 1) := by decide +kernel
theorem dL_law_817 : decode cL_law 817 = .ok (.ireturn, 1) := by decide +kernel
theorem dL_law_818 : decode cL_law 818 = .ok (.iload 5, 2) := by decide +kernel
theorem dL_law_820 : decode cL_law 820 = .ok (.ifCond .ne 15, 3) := by decide +kernel
theorem dL_law_823 : decode cL_law 823 = .ok (.aload_n 3, 1) := by decide +kernel
theorem dL_law_824 : decode cL_law 824 = .ok (.iconst 0, 1) := by decide +kernel
theorem dL_law_825 : decode cL_law 825 = .ok (.laload, 1) := by decide +kernel
theorem dL_law_826 : decode cL_law 826 = .ok (.iload 6, 2) := by decide +kernel
theorem dL_law_828 : decode cL_law 828 = .ok (.i2l, 1) := by decide +kernel
theorem dL_law_829 : decode cL_law 829 = .ok (.lcmp, 1) := by decide +kernel
theorem dL_law_830 : decode cL_law 830 = .ok (.ifCond .eq 5, 3) := by decide +kernel
theorem dL_law_833 : decode cL_law 833 = .ok (.iconst 0, 1) := by decide +kernel
theorem dL_law_834 : decode cL_law 834 = .ok (.ireturn, 1) := by decide +kernel
theorem dL_law_835 : decode cL_law 835 = .ok (.goto 804, 3) := by decide +kernel
theorem dL_law_838 : decode cL_law 838 = .ok (.aload_n 1, 1) := by decide +kernel
theorem dL_law_839 : decode cL_law 839 = .ok (.aload_n 3, 1) := by decide +kernel
theorem dL_law_840 : decode cL_law 840 = .ok (.invokestatic 135, 3) := by decide +kernel
theorem dL_law_843 : decode cL_law 843 = .ok (.istore 5, 2) := by decide +kernel
theorem dL_law_845 : decode cL_law 845 = .ok (.aload_n 2, 1) := by decide +kernel
theorem dL_law_846 : decode cL_law 846 = .ok (.invokevirtual 138, 3) := by decide +kernel
theorem dL_law_849 : decode cL_law 849 = .ok (.istore 6, 2) := by decide +kernel
theorem dL_law_851 : decode cL_law 851 = .ok (.aload_n 2, 1) := by decide +kernel
theorem dL_law_852 : decode cL_law 852 = .ok (.invokevirtual 91, 3) := by decide +kernel
theorem dL_law_855 : decode cL_law 855 = .ok (.iload 5, 2) := by decide +kernel
theorem dL_law_857 : decode cL_law 857 = .ok (.if_icmp .eq 5, 3) := by decide +kernel
theorem dL_law_860 : decode cL_law 860 = .ok (.iconst 0, 1) := by decide +kernel
theorem dL_law_861 : decode cL_law 861 = .ok (.ireturn, 1) := by decide +kernel
theorem dL_law_862 : decode cL_law 862 = .ok (.iload 5, 2) := by decide +kernel
theorem dL_law_864 : decode cL_law 864 = .ok (.ifCond .ne 15, 3) := by decide +kernel
theorem dL_law_867 : decode cL_law 867 = .ok (.aload_n 3, 1) := by decide +kernel
theorem dL_law_868 : decode cL_law 868 = .ok (.iconst 0, 1) := by decide +kernel
theorem dL_law_869 : decode cL_law 869 = .ok (.laload, 1) := by decide +kernel
theorem dL_law_870 : decode cL_law 870 = .ok (.iload 6, 2) := by decide +kernel
theorem dL_law_872 : decode cL_law 872 = .ok (.i2l, 1) := by decide +kernel
theorem dL_law_873 : decode cL_law 873 = .ok (.lcmp, 1) := by decide +kernel
theorem dL_law_874 : decode cL_law 874 = .ok (.ifCond .eq 5, 3) := by decide +kernel
theorem dL_law_877 : decode cL_law 877 = .ok (.iconst 0, 1) := by decide +kernel
theorem dL_law_878 : decode cL_law 878 = .ok (.ireturn, 1) := by decide +kernel
theorem dL_law_879 : decode cL_law 879 = .ok (.goto 760, 3) := by decide +kernel
theorem dL_law_882 : decode cL_law 882 = .ok (.aload_n 1, 1) := by decide +kernel
theorem dL_law_883 : decode cL_law 883 = .ok (.aload_n 0, 1) := by decide +kernel
theorem dL_law_884 : decode cL_law 884 = .ok (.iload 4, 2) := by decide +kernel
theorem dL_law_886 : decode cL_law 886 = .ok (.iconst 1, 1) := by decide +kernel
theorem dL_law_887 : decode cL_law 887 = .ok (.iadd, 1) := by decide +kernel
theorem dL_law_888 : decode cL_law 888 = .ok (.iaload, 1) := by decide +kernel
theorem dL_law_889 : decode cL_law 889 = .ok (.aload_n 0, 1) := by decide +kernel
theorem dL_law_890 : decode cL_law 890 = .ok (.iload 4, 2) := by decide +kernel
theorem dL_law_892 : decode cL_law 892 = .ok (.iconst 2, 1) := by decide +kernel
theorem dL_law_893 : decode cL_law 893 = .ok (.iadd, 1) := by decide +kernel
theorem dL_law_894 : decode cL_law 894 = .ok (.iaload, 1) := by decide +kernel
theorem dL_law_895 : decode cL_law 895 = .ok (.aload_n 3, 1) := by decide +kernel
theorem dL_law_896 : decode cL_law 896 = .ok (.invokestatic 139, 3) := by decide +kernel
theorem dL_law_899 : decode cL_law 899 = .ok (.istore 5, 2) := by decide +kernel
theorem dL_law_901 : decode cL_law 901 = .ok (.aload_n 2, 1) := by decide +kernel
theorem dL_law_902 : decode cL_law 902 = .ok (.aload_n 0, 1) := by decide +kernel
theorem dL_law_903 : decode cL_law 903 = .ok (.iload 4, 2) := by decide +kernel
theorem dL_law_905 : decode cL_law 905 = .ok (.iconst 1, 1) := by decide +kernel
theorem dL_law_906 : decode cL_law 906 = .ok (.iadd, 1) := by decide +kernel
theorem dL_law_907 : decode cL_law 907 = .ok (.iaload, 1) := by decide +kernel
theorem dL_law_908 : decode cL_law 908 = .ok (.aload_n 0, 1) := by decide +kernel
theorem dL_law_909 : decode cL_law 909 = .ok (.iload 4, 2) := by decide +kernel
theorem dL_law_911 : decode cL_law 911 = .ok (.iconst 2, 1) := by decide +kernel
theorem dL_law_912 : decode cL_law 912 = .ok (.iadd, 1) := by decide +kernel
theorem dL_law_913 : decode cL_law 913 = .ok (.iaload, 1) := by decide +kernel
theorem dL_law_914 : decode cL_law 914 = .ok (.invokevirtual 141, 3) := by decide +kernel
theorem dL_law_917 : decode cL_law 917 = .ok (.istore 6, 2) := by decide +kernel
theorem dL_law_919 : decode cL_law 919 = .ok (.aload_n 2, 1) := by decide +kernel
theorem dL_law_920 : decode cL_law 920 = .ok (.invokevirtual 91, 3) := by decide +kernel
theorem dL_law_923 : decode cL_law 923 = .ok (.iload 5, 2) := by decide +kernel
theorem dL_law_925 : decode cL_law 925 = .ok (.if_icmp .eq 5, 3) := by decide +kernel
theorem dL_law_928 : decode cL_law 928 = .ok (.iconst 0, 1) := by decide +kernel
theorem dL_law_929 : decode cL_law 929 = .ok (.ireturn, 1) := by decide +kernel
theorem dL_law_930 : decode cL_law 930 = .ok (.iload 5, 2) := by decide +kernel
theorem dL_law_932 : decode cL_law 932 = .ok (.ifCond .ne 15, 3) := by decide +kernel
theorem dL_law_935 : decode cL_law 935 = .ok (.aload_n 3, 1) := by decide +kernel
theorem dL_law_936 : decode cL_law 936 = .ok (.iconst 0, 1) := by decide +kernel
theorem dL_law_937 : decode cL_law 937 = .ok (.laload, 1) := by decide +kernel
theorem dL_law_938 : decode cL_law 938 = .ok (.iload 6, 2) := by decide +kernel
theorem dL_law_940 : decode cL_law 940 = .ok (.i2l, 1) := by decide +kernel
theorem dL_law_941 : decode cL_law 941 = .ok (.lcmp, 1) := by decide +kernel
theorem dL_law_942 : decode cL_law 942 = .ok (.ifCond .eq 5, 3) := by decide +kernel
theorem dL_law_945 : decode cL_law 945 = .ok (.iconst 0, 1) := by decide +kernel
theorem dL_law_946 : decode cL_law 946 = .ok (.ireturn, 1) := by decide +kernel
theorem dL_law_947 : decode cL_law 947 = .ok (.goto 692, 3) := by decide +kernel
theorem dL_law_950 : decode cL_law 950 = .ok (.aload_n 1, 1) := by decide +kernel
theorem dL_law_951 : decode cL_law 951 = .ok (.aload_n 0, 1) := by decide +kernel
theorem dL_law_952 : decode cL_law 952 = .ok (.iload 4, 2) := by decide +kernel
theorem dL_law_954 : decode cL_law 954 = .ok (.iconst 1, 1) := by decide +kernel
theorem dL_law_955 : decode cL_law 955 = .ok (.iadd, 1) := by decide +kernel
theorem dL_law_956 : decode cL_law 956 = .ok (.iaload, 1) := by decide +kernel
theorem dL_law_957 : decode cL_law 957 = .ok (.aload_n 3, 1) := by decide +kernel
theorem dL_law_958 : decode cL_law 958 = .ok (.invokestatic 142, 3) := by decide +kernel
theorem dL_law_961 : decode cL_law 961 = .ok (.istore 5, 2) := by decide +kernel
theorem dL_law_963 : decode cL_law 963 = .ok (.aload_n 2, 1) := by decide +kernel
theorem dL_law_964 : decode cL_law 964 = .ok (.aload_n 0, 1) := by decide +kernel
theorem dL_law_965 : decode cL_law 965 = .ok (.iload 4, 2) := by decide +kernel
theorem dL_law_967 : decode cL_law 967 = .ok (.iconst 1, 1) := by decide +kernel
theorem dL_law_968 : decode cL_law 968 = .ok (.iadd, 1) := by decide +kernel
theorem dL_law_969 : decode cL_law 969 = .ok (.iaload, 1) := by decide +kernel
theorem dL_law_970 : decode cL_law 970 = .ok (.invokevirtual 144, 3) := by decide +kernel
theorem dL_law_973 : decode cL_law 973 = .ok (.istore 6, 2) := by decide +kernel
theorem dL_law_975 : decode cL_law 975 = .ok (.aload_n 2, 1) := by decide +kernel
theorem dL_law_976 : decode cL_law 976 = .ok (.invokevirtual 91, 3) := by decide +kernel
theorem dL_law_979 : decode cL_law 979 = .ok (.iload 5, 2) := by decide +kernel
theorem dL_law_981 : decode cL_law 981 = .ok (.if_icmp .eq 5, 3) := by decide +kernel
theorem dL_law_984 : decode cL_law 984 = .ok (.iconst 0, 1) := by decide +kernel
theorem dL_law_985 : decode cL_law 985 = .ok (.ireturn, 1) := by decide +kernel
theorem dL_law_986 : decode cL_law 986 = .ok (.iload 5, 2) := by decide +kernel
theorem dL_law_988 : decode cL_law 988 = .ok (.ifCond .ne 15, 3) := by decide +kernel
theorem dL_law_991 : decode cL_law 991 = .ok (.aload_n 3, 1) := by decide +kernel
theorem dL_law_992 : decode cL_law 992 = .ok (.iconst 0, 1) := by decide +kernel
theorem dL_law_993 : decode cL_law 993 = .ok (.laload, 1) := by decide +kernel
theorem dL_law_994 : decode cL_law 994 = .ok (.iload 6, 2) := by decide +kernel
theorem dL_law_996 : decode cL_law 996 = .ok (.i2l, 1) := by decide +kernel
theorem dL_law_997 : decode cL_law 997 = .ok (.lcmp, 1) := by decide +kernel
theorem dL_law_998 : decode cL_law 998 = .ok (.ifCond .eq 5, 3) := by decide +kernel
theorem dL_law_1001 : decode cL_law 1001 = .ok (.iconst 0, 1) := by decide +kernel
theorem dL_law_1002 : decode cL_law 1002 = .ok (.ireturn, 1) := by decide +kernel
theorem dL_law_1003 : decode cL_law 1003 = .ok (.goto 636, 3) := by decide +kernel
theorem dL_law_1006 : decode cL_law 1006 = .ok (.aload_n 1, 1) := by decide +kernel
theorem dL_law_1007 : decode cL_law 1007 = .ok (.aload_n 3, 1) := by decide +kernel
theorem dL_law_1008 : decode cL_law 1008 = .ok (.invokestatic 145, 3) := by decide +kernel
theorem dL_law_1011 : decode cL_law 1011 = .ok (.istore 5, 2) := by decide +kernel
theorem dL_law_1013 : decode cL_law 1013 = .ok (.aload_n 2, 1) := by decide +kernel
theorem dL_law_1014 : decode cL_law 1014 = .ok (.invokevirtual 147, 3) := by decide +kernel
theorem dL_law_1017 : decode cL_law 1017 = .ok (.istore 6, 2) := by decide +kernel
theorem dL_law_1019 : decode cL_law 1019 = .ok (.aload_n 2, 1) := by decide +kernel
theorem dL_law_1020 : decode cL_law 1020 = .ok (.invokevirtual 91, 3) := by decide +kernel
theorem dL_law_1023 : decode cL_law 1023 = .ok (.iload 5, 2) := by decide +kernel
theorem dL_law_1025 : decode cL_law 1025 = .ok (.if_icmp .eq 5, 3) := by decide +kernel
theorem dL_law_1028 : decode cL_law 1028 = .ok (.iconst 0, 1) := by decide +kernel
theorem dL_law_1029 : decode cL_law 1029 = .ok (.ireturn, 1) := by decide +kernel
theorem dL_law_1030 : decode cL_law 1030 = .ok (.iload 5, 2) := by decide +kernel
theorem dL_law_1032 : decode cL_law 1032 = .ok (.ifCond .ne 15, 3) := by decide +kernel
theorem dL_law_1035 : decode cL_law 1035 = .ok (.aload_n 3, 1) := by decide +kernel
theorem dL_law_1036 : decode cL_law 1036 = .ok (.iconst 0, 1) := by decide +kernel
theorem dL_law_1037 : decode cL_law 1037 = .ok (.laload, 1) := by decide +kernel
theorem dL_law_1038 : decode cL_law 1038 = .ok (.iload 6, 2) := by decide +kernel
theorem dL_law_1040 : decode cL_law 1040 = .ok (.i2l, 1) := by decide +kernel
theorem dL_law_1041 : decode cL_law 1041 = .ok (.lcmp, 1) := by decide +kernel
theorem dL_law_1042 : decode cL_law 1042 = .ok (.ifCond .eq 5, 3) := by decide +kernel
theorem dL_law_1045 : decode cL_law 1045 = .ok (.iconst 0, 1) := by decide +kernel
theorem dL_law_1046 : decode cL_law 1046 = .ok (.ireturn, 1) := by decide +kernel
theorem dL_law_1047 : decode cL_law 1047 = .ok (.goto 592, 3) := by decide +kernel
theorem dL_law_1050 : decode cL_law 1050 = .ok (.aload_n 1, 1) := by decide +kernel
theorem dL_law_1051 : decode cL_law 1051 = .ok (.invokevirtual 148, 3) := by decide +kernel
theorem dL_law_1054 : decode cL_law 1054 = .ok (.aload_n 2, 1) := by decide +kernel
theorem dL_law_1055 : decode cL_law 1055 = .ok (.invokevirtual 152, 3) := by decide +kernel
theorem dL_law_1058 : decode cL_law 1058 = .ok (.if_icmp .eq 581, 3) := by decide +kernel
theorem dL_law_1061 : decode cL_law 1061 = .ok (.iconst 0, 1) := by decide +kernel
theorem dL_law_1062 : decode cL_law 1062 = .ok (.ireturn, 1) := by decide +kernel
theorem dL_law_1063 : decode cL_law 1063 = .ok (.aload_n 1, 1) := by decide +kernel
theorem dL_law_1064 : decode cL_law 1064 = .ok (.aload_n 0, 1) := by decide +kernel
theorem dL_law_1065 : decode cL_law 1065 = .ok (.iload 4, 2) := by decide +kernel
theorem dL_law_1067 : decode cL_law 1067 = .ok (.iconst 1, 1) := by decide +kernel
theorem dL_law_1068 : decode cL_law 1068 = .ok (.iadd, 1) := by decide +kernel
theorem dL_law_1069 : decode cL_law 1069 = .ok (.iaload, 1) := by decide +kernel
theorem dL_law_1070 : decode cL_law 1070 = .ok (.aload_n 3, 1) := by decide +kernel
theorem dL_law_1071 : decode cL_law 1071 = .ok (.invokestatic 153, 3) := by decide +kernel
theorem dL_law_1074 : decode cL_law 1074 = .ok (.istore 5, 2) := by decide +kernel
theorem dL_law_1076 : decode cL_law 1076 = .ok (.aload_n 2, 1) := by decide +kernel
theorem dL_law_1077 : decode cL_law 1077 = .ok (.aload_n 0, 1) := by decide +kernel
theorem dL_law_1078 : decode cL_law 1078 = .ok (.iload 4, 2) := by decide +kernel
theorem dL_law_1080 : decode cL_law 1080 = .ok (.iconst 1, 1) := by decide +kernel
theorem dL_law_1081 : decode cL_law 1081 = .ok (.iadd, 1) := by decide +kernel
theorem dL_law_1082 : decode cL_law 1082 = .ok (.iaload, 1) := by decide +kernel
theorem dL_law_1083 : decode cL_law 1083 = .ok (.invokevirtual 155, 3) := by decide +kernel
theorem dL_law_1086 : decode cL_law 1086 = .ok (.istore 6, 2) := by decide +kernel
theorem dL_law_1088 : decode cL_law 1088 = .ok (.aload_n 2, 1) := by decide +kernel
theorem dL_law_1089 : decode cL_law 1089 = .ok (.invokevirtual 91, 3) := by decide +kernel
theorem dL_law_1092 : decode cL_law 1092 = .ok (.iload 5, 2) := by decide +kernel
theorem dL_law_1094 : decode cL_law 1094 = .ok (.if_icmp .eq 5, 3) := by decide +kernel
theorem dL_law_1097 : decode cL_law 1097 = .ok (.iconst 0, 1) := by decide +kernel
theorem dL_law_1098 : decode cL_law 1098 = .ok (.ireturn, 1) := by decide +kernel
theorem dL_law_1099 : decode cL_law 1099 = .ok (.iload 5, 2) := by decide +kernel
theorem dL_law_1101 : decode cL_law 1101 = .ok (.ifCond .ne 15, 3) := by decide +kernel
theorem dL_law_1104 : decode cL_law 1104 = .ok (.aload_n 3, 1) := by decide +kernel
theorem dL_law_1105 : decode cL_law 1105 = .ok (.iconst 0, 1) := by decide +kernel
theorem dL_law_1106 : decode cL_law 1106 = .ok (.laload, 1) := by decide +kernel
theorem dL_law_1107 : decode cL_law 1107 = .ok (.iload 6, 2) := by decide +kernel
theorem dL_law_1109 : decode cL_law 1109 = .ok (.i2l, 1) := by decide +kernel
theorem dL_law_1110 : decode cL_law 1110 = .ok (.lcmp, 1) := by decide +kernel
theorem dL_law_1111 : decode cL_law 1111 = .ok (.ifCond .eq 5, 3) := by decide +kernel
theorem dL_law_1114 : decode cL_law 1114 = .ok (.iconst 0, 1) := by decide +kernel
theorem dL_law_1115 : decode cL_law 1115 = .ok (.ireturn, 1) := by decide +kernel
theorem dL_law_1116 : decode cL_law 1116 = .ok (.goto 523, 3) := by decide +kernel
theorem dL_law_1119 : decode cL_law 1119 = .ok (.aload_n 1, 1) := by decide +kernel
theorem dL_law_1120 : decode cL_law 1120 = .ok (.aload_n 0, 1) := by decide +kernel
theorem dL_law_1121 : decode cL_law 1121 = .ok (.iload 4, 2) := by decide +kernel
theorem dL_law_1123 : decode cL_law 1123 = .ok (.iconst 1, 1) := by decide +kernel
theorem dL_law_1124 : decode cL_law 1124 = .ok (.iadd, 1) := by decide +kernel
theorem dL_law_1125 : decode cL_law 1125 = .ok (.iaload, 1) := by decide +kernel
theorem dL_law_1126 : decode cL_law 1126 = .ok (.aload_n 0, 1) := by decide +kernel
theorem dL_law_1127 : decode cL_law 1127 = .ok (.iload 4, 2) := by decide +kernel
theorem dL_law_1129 : decode cL_law 1129 = .ok (.iconst 2, 1) := by decide +kernel
theorem dL_law_1130 : decode cL_law 1130 = .ok (.iadd, 1) := by decide +kernel
theorem dL_law_1131 : decode cL_law 1131 = .ok (.iaload, 1) := by decide +kernel
theorem dL_law_1132 : decode cL_law 1132 = .ok (.aload_n 3, 1) := by decide +kernel
theorem dL_law_1133 : decode cL_law 1133 = .ok (.invokestatic 156, 3) := by decide +kernel
theorem dL_law_1136 : decode cL_law 1136 = .ok (.istore 5, 2) := by decide +kernel
theorem dL_law_1138 : decode cL_law 1138 = .ok (.aload_n 2, 1) := by decide +kernel
theorem dL_law_1139 : decode cL_law 1139 = .ok (.aload_n 0, 1) := by decide +kernel
theorem dL_law_1140 : decode cL_law 1140 = .ok (.iload 4, 2) := by decide +kernel
theorem dL_law_1142 : decode cL_law 1142 = .ok (.iconst 1, 1) := by decide +kernel
theorem dL_law_1143 : decode cL_law 1143 = .ok (.iadd, 1) := by decide +kernel
theorem dL_law_1144 : decode cL_law 1144 = .ok (.iaload, 1) := by decide +kernel
theorem dL_law_1145 : decode cL_law 1145 = .ok (.aload_n 0, 1) := by decide +kernel
theorem dL_law_1146 : decode cL_law 1146 = .ok (.iload 4, 2) := by decide +kernel
theorem dL_law_1148 : decode cL_law 1148 = .ok (.iconst 2, 1) := by decide +kernel
theorem dL_law_1149 : decode cL_law 1149 = .ok (.iadd, 1) := by decide +kernel
theorem dL_law_1150 : decode cL_law 1150 = .ok (.iaload, 1) := by decide +kernel
theorem dL_law_1151 : decode cL_law 1151 = .ok (.invokevirtual 158, 3) := by decide +kernel
theorem dL_law_1154 : decode cL_law 1154 = .ok (.istore 6, 2) := by decide +kernel
theorem dL_law_1156 : decode cL_law 1156 = .ok (.aload_n 2, 1) := by decide +kernel
theorem dL_law_1157 : decode cL_law 1157 = .ok (.invokevirtual 91, 3) := by decide +kernel
theorem dL_law_1160 : decode cL_law 1160 = .ok (.iload 5, 2) := by decide +kernel
theorem dL_law_1162 : decode cL_law 1162 = .ok (.if_icmp .eq 5, 3) := by decide +kernel
theorem dL_law_1165 : decode cL_law 1165 = .ok (.iconst 0, 1) := by decide +kernel
theorem dL_law_1166 : decode cL_law 1166 = .ok (.ireturn, 1) := by decide +kernel
theorem dL_law_1167 : decode cL_law 1167 = .ok (.iload 5, 2) := by decide +kernel
theorem dL_law_1169 : decode cL_law 1169 = .ok (.ifCond .ne 15, 3) := by decide +kernel
theorem dL_law_1172 : decode cL_law 1172 = .ok (.aload_n 3, 1) := by decide +kernel
theorem dL_law_1173 : decode cL_law 1173 = .ok (.iconst 0, 1) := by decide +kernel
theorem dL_law_1174 : decode cL_law 1174 = .ok (.laload, 1) := by decide +kernel
theorem dL_law_1175 : decode cL_law 1175 = .ok (.iload 6, 2) := by decide +kernel
theorem dL_law_1177 : decode cL_law 1177 = .ok (.i2l, 1) := by decide +kernel
theorem dL_law_1178 : decode cL_law 1178 = .ok (.lcmp, 1) := by decide +kernel
theorem dL_law_1179 : decode cL_law 1179 = .ok (.ifCond .eq 5, 3) := by decide +kernel
theorem dL_law_1182 : decode cL_law 1182 = .ok (.iconst 0, 1) := by decide +kernel
theorem dL_law_1183 : decode cL_law 1183 = .ok (.ireturn, 1) := by decide +kernel
theorem dL_law_1184 : decode cL_law 1184 = .ok (.goto 455, 3) := by decide +kernel
theorem dL_law_1187 : decode cL_law 1187 = .ok (.aload_n 1, 1) := by decide +kernel
theorem dL_law_1188 : decode cL_law 1188 = .ok (.aload_n 0, 1) := by decide +kernel
theorem dL_law_1189 : decode cL_law 1189 = .ok (.iload 4, 2) := by decide +kernel
theorem dL_law_1191 : decode cL_law 1191 = .ok (.iconst 1, 1) := by decide +kernel
theorem dL_law_1192 : decode cL_law 1192 = .ok (.iadd, 1) := by decide +kernel
theorem dL_law_1193 : decode cL_law 1193 = .ok (.iaload, 1) := by decide +kernel
theorem dL_law_1194 : decode cL_law 1194 = .ok (.aload_n 3, 1) := by decide +kernel
theorem dL_law_1195 : decode cL_law 1195 = .ok (.invokestatic 159, 3) := by decide +kernel
theorem dL_law_1198 : decode cL_law 1198 = .ok (.istore 5, 2) := by decide +kernel
theorem dL_law_1200 : decode cL_law 1200 = .ok (.aload_n 2, 1) := by decide +kernel
theorem dL_law_1201 : decode cL_law 1201 = .ok (.aload_n 0, 1) := by decide +kernel
theorem dL_law_1202 : decode cL_law 1202 = .ok (.iload 4, 2) := by decide +kernel
theorem dL_law_1204 : decode cL_law 1204 = .ok (.iconst 1, 1) := by decide +kernel
theorem dL_law_1205 : decode cL_law 1205 = .ok (.iadd, 1) := by decide +kernel
theorem dL_law_1206 : decode cL_law 1206 = .ok (.iaload, 1) := by decide +kernel
theorem dL_law_1207 : decode cL_law 1207 = .ok (.invokevirtual 161, 3) := by decide +kernel
theorem dL_law_1210 : decode cL_law 1210 = .ok (.istore 6, 2) := by decide +kernel
theorem dL_law_1212 : decode cL_law 1212 = .ok (.aload_n 2, 1) := by decide +kernel
theorem dL_law_1213 : decode cL_law 1213 = .ok (.invokevirtual 91, 3) := by decide +kernel
theorem dL_law_1216 : decode cL_law 1216 = .ok (.iload 5, 2) := by decide +kernel
theorem dL_law_1218 : decode cL_law 1218 = .ok (.if_icmp .eq 5, 3) := by decide +kernel
theorem dL_law_1221 : decode cL_law 1221 = .ok (.iconst 0, 1) := by decide +kernel
theorem dL_law_1222 : decode cL_law 1222 = .ok (.ireturn, 1) := by decide +kernel
theorem dL_law_1223 : decode cL_law 1223 = .ok (.iload 5, 2) := by decide +kernel
theorem dL_law_1225 : decode cL_law 1225 = .ok (.ifCond .ne 15, 3) := by decide +kernel
theorem dL_law_1228 : decode cL_law 1228 = .ok (.aload_n 3, 1) := by decide +kernel
theorem dL_law_1229 : decode cL_law 1229 = .ok (.iconst 0, 1) := by decide +kernel
theorem dL_law_1230 : decode cL_law 1230 = .ok (.laload, 1) := by decide +kernel
theorem dL_law_1231 : decode cL_law 1231 = .ok (.iload 6, 2) := by decide +kernel
theorem dL_law_1233 : decode cL_law 1233 = .ok (.i2l, 1) := by decide +kernel
theorem dL_law_1234 : decode cL_law 1234 = .ok (.lcmp, 1) := by decide +kernel
theorem dL_law_1235 : decode cL_law 1235 = .ok (.ifCond .eq 5, 3) := by decide +kernel
theorem dL_law_1238 : decode cL_law 1238 = .ok (.iconst 0, 1) := by decide +kernel
theorem dL_law_1239 : decode cL_law 1239 = .ok (.ireturn, 1) := by decide +kernel
theorem dL_law_1240 : decode cL_law 1240 = .ok (.goto 399, 3) := by decide +kernel
theorem dL_law_1243 : decode cL_law 1243 = .ok (.aload_n 1, 1) := by decide +kernel
theorem dL_law_1244 : decode cL_law 1244 = .ok (.invokevirtual 162, 3) := by decide +kernel
theorem dL_law_1247 : decode cL_law 1247 = .ok (.aload_n 2, 1) := by decide +kernel
theorem dL_law_1248 : decode cL_law 1248 = .ok (.invokevirtual 165, 3) := by decide +kernel
theorem dL_law_1251 : decode cL_law 1251 = .ok (.if_icmp .eq 388, 3) := by decide +kernel
theorem dL_law_1254 : decode cL_law 1254 = .ok (.iconst 0, 1) := by decide +kernel
theorem dL_law_1255 : decode cL_law 1255 = .ok (.ireturn, 1) := by decide +kernel
theorem dL_law_1256 : decode cL_law 1256 = .ok (.aload_n 1, 1) := by decide +kernel
theorem dL_law_1257 : decode cL_law 1257 = .ok (.aload_n 0, 1) := by decide +kernel
theorem dL_law_1258 : decode cL_law 1258 = .ok (.iload 4, 2) := by decide +kernel
theorem dL_law_1260 : decode cL_law 1260 = .ok (.iconst 1, 1) := by decide +kernel
theorem dL_law_1261 : decode cL_law 1261 = .ok (.iadd, 1) := by decide +kernel
theorem dL_law_1262 : decode cL_law 1262 = .ok (.iaload, 1) := by decide +kernel
theorem dL_law_1263 : decode cL_law 1263 = .ok (.aload_n 0, 1) := by decide +kernel
theorem dL_law_1264 : decode cL_law 1264 = .ok (.iload 4, 2) := by decide +kernel
theorem dL_law_1266 : decode cL_law 1266 = .ok (.iconst 2, 1) := by decide +kernel
theorem dL_law_1267 : decode cL_law 1267 = .ok (.iadd, 1) := by decide +kernel
theorem dL_law_1268 : decode cL_law 1268 = .ok (.iaload, 1) := by decide +kernel
theorem dL_law_1269 : decode cL_law 1269 = .ok (.aload_n 3, 1) := by decide +kernel
theorem dL_law_1270 : decode cL_law 1270 = .ok (.invokestatic 166, 3) := by decide +kernel
theorem dL_law_1273 : decode cL_law 1273 = .ok (.istore 5, 2) := by decide +kernel
theorem dL_law_1275 : decode cL_law 1275 = .ok (.aload_n 2, 1) := by decide +kernel
theorem dL_law_1276 : decode cL_law 1276 = .ok (.aload_n 0, 1) := by decide +kernel
theorem dL_law_1277 : decode cL_law 1277 = .ok (.iload 4, 2) := by decide +kernel
theorem dL_law_1279 : decode cL_law 1279 = .ok (.iconst 1, 1) := by decide +kernel
theorem dL_law_1280 : decode cL_law 1280 = .ok (.iadd, 1) := by decide +kernel
theorem dL_law_1281 : decode cL_law 1281 = .ok (.iaload, 1) := by decide +kernel
theorem dL_law_1282 : decode cL_law 1282 = .ok (.aload_n 0, 1) := by decide +kernel
theorem dL_law_1283 : decode cL_law 1283 = .ok (.iload 4, 2) := by decide +kernel
theorem dL_law_1285 : decode cL_law 1285 = .ok (.iconst 2, 1) := by decide +kernel
theorem dL_law_1286 : decode cL_law 1286 = .ok (.iadd, 1) := by decide +kernel
theorem dL_law_1287 : decode cL_law 1287 = .ok (.iaload, 1) := by decide +kernel
theorem dL_law_1288 : decode cL_law 1288 = .ok (.invokevirtual 168, 3) := by decide +kernel
theorem dL_law_1291 : decode cL_law 1291 = .ok (.istore 6, 2) := by decide +kernel
theorem dL_law_1293 : decode cL_law 1293 = .ok (.aload_n 2, 1) := by decide +kernel
theorem dL_law_1294 : decode cL_law 1294 = .ok (.invokevirtual 91, 3) := by decide +kernel
theorem dL_law_1297 : decode cL_law 1297 = .ok (.iload 5, 2) := by decide +kernel
theorem dL_law_1299 : decode cL_law 1299 = .ok (.if_icmp .eq 5, 3) := by decide +kernel
theorem dL_law_1302 : decode cL_law 1302 = .ok (.iconst 0, 1) := by decide +kernel
theorem dL_law_1303 : decode cL_law 1303 = .ok (.ireturn, 1) := by decide +kernel
theorem dL_law_1304 : decode cL_law 1304 = .ok (.iload 5, 2) := by decide +kernel
theorem dL_law_1306 : decode cL_law 1306 = .ok (.ifCond .ne 15, 3) := by decide +kernel
theorem dL_law_1309 : decode cL_law 1309 = .ok (.aload_n 3, 1) := by decide +kernel
theorem dL_law_1310 : decode cL_law 1310 = .ok (.iconst 0, 1) := by decide +kernel
theorem dL_law_1311 : decode cL_law 1311 = .ok (.laload, 1) := by decide +kernel
theorem dL_law_1312 : decode cL_law 1312 = .ok (.iload 6, 2) := by decide +kernel
theorem dL_law_1314 : decode cL_law 1314 = .ok (.i2l, 1) := by decide +kernel
theorem dL_law_1315 : decode cL_law 1315 = .ok (.lcmp, 1) := by decide +kernel
theorem dL_law_1316 : decode cL_law 1316 = .ok (.ifCond .eq 5, 3) := by decide +kernel
theorem dL_law_1319 : decode cL_law 1319 = .ok (.iconst 0, 1) := by decide +kernel
theorem dL_law_1320 : decode cL_law 1320 = .ok (.ireturn, 1) := by decide +kernel
theorem dL_law_1321 : decode cL_law 1321 = .ok (.goto 318, 3) := by decide +kernel
theorem dL_law_1324 : decode cL_law 1324 = .ok (.aload_n 1, 1) := by decide +kernel
theorem dL_law_1325 : decode cL_law 1325 = .ok (.aload_n 0, 1) := by decide +kernel
theorem dL_law_1326 : decode cL_law 1326 = .ok (.iload 4, 2) := by decide +kernel
theorem dL_law_1328 : decode cL_law 1328 = .ok (.iconst 1, 1) := by decide +kernel
theorem dL_law_1329 : decode cL_law 1329 = .ok (.iadd, 1) := by decide +kernel
theorem dL_law_1330 : decode cL_law 1330 = .ok (.iaload, 1) := by decide +kernel
theorem dL_law_1331 : decode cL_law 1331 = .ok (.aload_n 0, 1) := by decide +kernel
theorem dL_law_1332 : decode cL_law 1332 = .ok (.iload 4, 2) := by decide +kernel
theorem dL_law_1334 : decode cL_law 1334 = .ok (.iconst 2, 1) := by decide +kernel
theorem dL_law_1335 : decode cL_law 1335 = .ok (.iadd, 1) := by decide +kernel
theorem dL_law_1336 : decode cL_law 1336 = .ok (.iaload, 1) := by decide +kernel
theorem dL_law_1337 : decode cL_law 1337 = .ok (.aload_n 0, 1) := by decide +kernel
theorem dL_law_1338 : decode cL_law 1338 = .ok (.iload 4, 2) := by decide +kernel
theorem dL_law_1340 : decode cL_law 1340 = .ok (.iconst 3, 1) := by decide +kernel
theorem dL_law_1341 : decode cL_law 1341 = .ok (.iadd, 1) := by decide +kernel
theorem dL_law_1342 : decode cL_law 1342 = .ok (.iaload, 1) := by decide +kernel
theorem dL_law_1343 : decode cL_law 1343 = .ok (.aload_n 3, 1) := by decide +kernel
theorem dL_law_1344 : decode cL_law 1344 = .ok (.invokestatic 169, 3) := by decide +kernel
theorem dL_law_1347 : decode cL_law 1347 = .ok (.istore 5, 2) := by decide +kernel
theorem dL_law_1349 : decode cL_law 1349 = .ok (.aload_n 2, 1) := by decide +kernel
theorem dL_law_1350 : decode cL_law 1350 = .ok (.aload_n 0, 1) := by decide +kernel
theorem dL_law_1351 : decode cL_law 1351 = .ok (.iload 4, 2) := by decide +kernel
theorem dL_law_1353 : decode cL_law 1353 = .ok (.iconst 1, 1) := by decide +kernel
theorem dL_law_1354 : decode cL_law 1354 = .ok (.iadd, 1) := by decide +kernel
theorem dL_law_1355 : decode cL_law 1355 = .ok (.iaload, 1) := by decide +kernel
theorem dL_law_1356 : decode cL_law 1356 = .ok (.aload_n 0, 1) := by decide +kernel
theorem dL_law_1357 : decode cL_law 1357 = .ok (.iload 4, 2) := by decide +kernel
theorem dL_law_1359 : decode cL_law 1359 = .ok (.iconst 2, 1) := by decide +kernel
theorem dL_law_1360 : decode cL_law 1360 = .ok (.iadd, 1) := by decide +kernel
theorem dL_law_1361 : decode cL_law 1361 = .ok (.iaload, 1) := by decide +kernel
theorem dL_law_1362 : decode cL_law 1362 = .ok (.aload_n 0, 1) := by decide +kernel
theorem dL_law_1363 : decode cL_law 1363 = .ok (.iload 4, 2) := by decide +kernel
theorem dL_law_1365 : decode cL_law 1365 = .ok (.iconst 3, 1) := by decide +kernel
theorem dL_law_1366 : decode cL_law 1366 = .ok (.iadd, 1) := by decide +kernel
theorem dL_law_1367 : decode cL_law 1367 = .ok (.iaload, 1) := by decide +kernel
theorem dL_law_1368 : decode cL_law 1368 = .ok (.invokevirtual 171, 3) := by decide +kernel
theorem dL_law_1371 : decode cL_law 1371 = .ok (.istore 6, 2) := by decide +kernel
theorem dL_law_1373 : decode cL_law 1373 = .ok (.aload_n 2, 1) := by decide +kernel
theorem dL_law_1374 : decode cL_law 1374 = .ok (.invokevirtual 91, 3) := by decide +kernel
theorem dL_law_1377 : decode cL_law 1377 = .ok (.iload 5, 2) := by decide +kernel
theorem dL_law_1379 : decode cL_law 1379 = .ok (.if_icmp .eq 5, 3) := by decide +kernel
theorem dL_law_1382 : decode cL_law 1382 = .ok (.iconst 0, 1) := by decide +kernel
theorem dL_law_1383 : decode cL_law 1383 = .ok (.ireturn, 1) := by decide +kernel
theorem dL_law_1384 : decode cL_law 1384 = .ok (.iload 5, 2) := by decide +kernel
theorem dL_law_1386 : decode cL_law 1386 = .ok (.ifCond .ne 15, 3) := by decide +kernel
theorem dL_law_1389 : decode cL_law 1389 = .ok (.aload_n 3, 1) := by decide +kernel
theorem dL_law_1390 : decode cL_law 1390 = .ok (.iconst 0, 1) := by decide +kernel
theorem dL_law_1391 : decode cL_law 1391 = .ok (.laload, 1) := by decide +kernel
theorem dL_law_1392 : decode cL_law 1392 = .ok (.iload 6, 2) := by decide +kernel
theorem dL_law_1394 : decode cL_law 1394 = .ok (.i2l, 1) := by decide +kernel
theorem dL_law_1395 : decode cL_law 1395 = .ok (.lcmp, 1) := by decide +kernel
theorem dL_law_1396 : decode cL_law 1396 = .ok (.ifCond .eq 5, 3) := by decide +kernel
theorem dL_law_1399 : decode cL_law 1399 = .ok (.iconst 0, 1) := by decide +kernel
theorem dL_law_1400 : decode cL_law 1400 = .ok (.ireturn, 1) := by decide +kernel
theorem dL_law_1401 : decode cL_law 1401 = .ok (.goto 238, 3) := by decide +kernel
theorem dL_law_1404 : decode cL_law 1404 = .ok (.aload_n 1, 1) := by decide +kernel
theorem dL_law_1405 : decode cL_law 1405 = .ok (.aload_n 0, 1) := by decide +kernel
theorem dL_law_1406 : decode cL_law 1406 = .ok (.iload 4, 2) := by decide +kernel
theorem dL_law_1408 : decode cL_law 1408 = .ok (.iconst 1, 1) := by decide +kernel
theorem dL_law_1409 : decode cL_law 1409 = .ok (.iadd, 1) := by decide +kernel
theorem dL_law_1410 : decode cL_law 1410 = .ok (.iaload, 1) := by decide +kernel
theorem dL_law_1411 : decode cL_law 1411 = .ok (.aload_n 0, 1) := by decide +kernel
theorem dL_law_1412 : decode cL_law 1412 = .ok (.iload 4, 2) := by decide +kernel
theorem dL_law_1414 : decode cL_law 1414 = .ok (.iconst 2, 1) := by decide +kernel
theorem dL_law_1415 : decode cL_law 1415 = .ok (.iadd, 1) := by decide +kernel
theorem dL_law_1416 : decode cL_law 1416 = .ok (.iaload, 1) := by decide +kernel
theorem dL_law_1417 : decode cL_law 1417 = .ok (.aload_n 3, 1) := by decide +kernel
theorem dL_law_1418 : decode cL_law 1418 = .ok (.invokestatic 172, 3) := by decide +kernel
theorem dL_law_1421 : decode cL_law 1421 = .ok (.istore 5, 2) := by decide +kernel
theorem dL_law_1423 : decode cL_law 1423 = .ok (.aload_n 2, 1) := by decide +kernel
theorem dL_law_1424 : decode cL_law 1424 = .ok (.aload_n 0, 1) := by decide +kernel
theorem dL_law_1425 : decode cL_law 1425 = .ok (.iload 4, 2) := by decide +kernel
theorem dL_law_1427 : decode cL_law 1427 = .ok (.iconst 1, 1) := by decide +kernel
theorem dL_law_1428 : decode cL_law 1428 = .ok (.iadd, 1) := by decide +kernel
theorem dL_law_1429 : decode cL_law 1429 = .ok (.iaload, 1) := by decide +kernel
theorem dL_law_1430 : decode cL_law 1430 = .ok (.aload_n 0, 1) := by decide +kernel
theorem dL_law_1431 : decode cL_law 1431 = .ok (.iload 4, 2) := by decide +kernel
theorem dL_law_1433 : decode cL_law 1433 = .ok (.iconst 2, 1) := by decide +kernel
theorem dL_law_1434 : decode cL_law 1434 = .ok (.iadd, 1) := by decide +kernel
theorem dL_law_1435 : decode cL_law 1435 = .ok (.iaload, 1) := by decide +kernel
theorem dL_law_1436 : decode cL_law 1436 = .ok (.invokevirtual 174, 3) := by decide +kernel
theorem dL_law_1439 : decode cL_law 1439 = .ok (.istore 6, 2) := by decide +kernel
theorem dL_law_1441 : decode cL_law 1441 = .ok (.aload_n 2, 1) := by decide +kernel
theorem dL_law_1442 : decode cL_law 1442 = .ok (.invokevirtual 91, 3) := by decide +kernel
theorem dL_law_1445 : decode cL_law 1445 = .ok (.iload 5, 2) := by decide +kernel
theorem dL_law_1447 : decode cL_law 1447 = .ok (.if_icmp .eq 5, 3) := by decide +kernel
theorem dL_law_1450 : decode cL_law 1450 = .ok (.iconst 0, 1) := by decide +kernel
theorem dL_law_1451 : decode cL_law 1451 = .ok (.ireturn, 1) := by decide +kernel
theorem dL_law_1452 : decode cL_law 1452 = .ok (.iload 5, 2) := by decide +kernel
theorem dL_law_1454 : decode cL_law 1454 = .ok (.ifCond .ne 15, 3) := by decide +kernel
theorem dL_law_1457 : decode cL_law 1457 = .ok (.aload_n 3, 1) := by decide +kernel
theorem dL_law_1458 : decode cL_law 1458 = .ok (.iconst 0, 1) := by decide +kernel
theorem dL_law_1459 : decode cL_law 1459 = .ok (.laload, 1) := by decide +kernel
theorem dL_law_1460 : decode cL_law 1460 = .ok (.iload 6, 2) := by decide +kernel
theorem dL_law_1462 : decode cL_law 1462 = .ok (.i2l, 1) := by decide +kernel
theorem dL_law_1463 : decode cL_law 1463 = .ok (.lcmp, 1) := by decide +kernel
theorem dL_law_1464 : decode cL_law 1464 = .ok (.ifCond .eq 5, 3) := by decide +kernel
theorem dL_law_1467 : decode cL_law 1467 = .ok (.iconst 0, 1) := by decide +kernel
theorem dL_law_1468 : decode cL_law 1468 = .ok (.ireturn, 1) := by decide +kernel
theorem dL_law_1469 : decode cL_law 1469 = .ok (.goto 170, 3) := by decide +kernel
theorem dL_law_1472 : decode cL_law 1472 = .ok (.aload_n 1, 1) := by decide +kernel
theorem dL_law_1473 : decode cL_law 1473 = .ok (.aload_n 3, 1) := by decide +kernel
theorem dL_law_1474 : decode cL_law 1474 = .ok (.invokestatic 175, 3) := by decide +kernel
theorem dL_law_1477 : decode cL_law 1477 = .ok (.istore 5, 2) := by decide +kernel
theorem dL_law_1479 : decode cL_law 1479 = .ok (.aload_n 2, 1) := by decide +kernel
theorem dL_law_1480 : decode cL_law 1480 = .ok (.invokevirtual 177, 3) := by decide +kernel
theorem dL_law_1483 : decode cL_law 1483 = .ok (.istore 6, 2) := by decide +kernel
theorem dL_law_1485 : decode cL_law 1485 = .ok (.aload_n 2, 1) := by decide +kernel
theorem dL_law_1486 : decode cL_law 1486 = .ok (.invokevirtual 91, 3) := by decide +kernel
theorem dL_law_1489 : decode cL_law 1489 = .ok (.iload 5, 2) := by decide +kernel
theorem dL_law_1491 : decode cL_law 1491 = .ok (.if_icmp .eq 5, 3) := by decide +kernel
theorem dL_law_1494 : decode cL_law 1494 = .ok (.iconst 0, 1) := by decide +kernel
theorem dL_law_1495 : decode cL_law 1495 = .ok (.ireturn, 1) := by decide +kernel
theorem dL_law_1496 : decode cL_law 1496 = .ok (.iload 5, 2) := by decide +kernel
theorem dL_law_1498 : decode cL_law 1498 = .ok (.ifCond .ne 15, 3) := by decide +kernel
theorem dL_law_1501 : decode cL_law 1501 = .ok (.aload_n 3, 1) := by decide +kernel
theorem dL_law_1502 : decode cL_law 1502 = .ok (.iconst 0, 1) := by decide +kernel
theorem dL_law_1503 : decode cL_law 1503 = .ok (.laload, 1) := by decide +kernel
theorem dL_law_1504 : decode cL_law 1504 = .ok (.iload 6, 2) := by decide +kernel
theorem dL_law_1506 : decode cL_law 1506 = .ok (.i2l, 1) := by decide +kernel
theorem dL_law_1507 : decode cL_law 1507 = .ok (.lcmp, 1) := by decide +kernel
theorem dL_law_1508 : decode cL_law 1508 = .ok (.ifCond .eq 5, 3) := by decide +kernel
theorem dL_law_1511 : decode cL_law 1511 = .ok (.iconst 0, 1) := by decide +kernel
theorem dL_law_1512 : decode cL_law 1512 = .ok (.ireturn, 1) := by decide +kernel
theorem dL_law_1513 : decode cL_law 1513 = .ok (.goto 126, 3) := by decide +kernel
theorem dL_law_1516 : decode cL_law 1516 = .ok (.aload_n 1, 1) := by decide +kernel
theorem dL_law_1517 : decode cL_law 1517 = .ok (.aload_n 0, 1) := by decide +kernel
theorem dL_law_1518 : decode cL_law 1518 = .ok (.iload 4, 2) := by decide +kernel
theorem dL_law_1520 : decode cL_law 1520 = .ok (.iconst 1, 1) := by decide +kernel
theorem dL_law_1521 : decode cL_law 1521 = .ok (.iadd, 1) := by decide +kernel
theorem dL_law_1522 : decode cL_law 1522 = .ok (.iaload, 1) := by decide +kernel
theorem dL_law_1523 : decode cL_law 1523 = .ok (.aload_n 0, 1) := by decide +kernel
theorem dL_law_1524 : decode cL_law 1524 = .ok (.iload 4, 2) := by decide +kernel
theorem dL_law_1526 : decode cL_law 1526 = .ok (.iconst 2, 1) := by decide +kernel
theorem dL_law_1527 : decode cL_law 1527 = .ok (.iadd, 1) := by decide +kernel
theorem dL_law_1528 : decode cL_law 1528 = .ok (.iaload, 1) := by decide +kernel
theorem dL_law_1529 : decode cL_law 1529 = .ok (.aload_n 3, 1) := by decide +kernel
theorem dL_law_1530 : decode cL_law 1530 = .ok (.invokestatic 178, 3) := by decide +kernel
theorem dL_law_1533 : decode cL_law 1533 = .ok (.istore 5, 2) := by decide +kernel
theorem dL_law_1535 : decode cL_law 1535 = .ok (.aload_n 2, 1) := by decide +kernel
theorem dL_law_1536 : decode cL_law 1536 = .ok (.aload_n 0, 1) := by decide +kernel
theorem dL_law_1537 : decode cL_law 1537 = .ok (.iload 4, 2) := by decide +kernel
theorem dL_law_1539 : decode cL_law 1539 = .ok (.iconst 1, 1) := by decide +kernel
theorem dL_law_1540 : decode cL_law 1540 = .ok (.iadd, 1) := by decide +kernel
theorem dL_law_1541 : decode cL_law 1541 = .ok (.iaload, 1) := by decide +kernel
theorem dL_law_1542 : decode cL_law 1542 = .ok (.aload_n 0, 1) := by decide +kernel
theorem dL_law_1543 : decode cL_law 1543 = .ok (.iload 4, 2) := by decide +kernel
theorem dL_law_1545 : decode cL_law 1545 = .ok (.iconst 2, 1) := by decide +kernel
theorem dL_law_1546 : decode cL_law 1546 = .ok (.iadd, 1) := by decide +kernel
theorem dL_law_1547 : decode cL_law 1547 = .ok (.iaload, 1) := by decide +kernel
theorem dL_law_1548 : decode cL_law 1548 = .ok (.invokevirtual 180, 3) := by decide +kernel
theorem dL_law_1551 : decode cL_law 1551 = .ok (.istore 6, 2) := by decide +kernel
theorem dL_law_1553 : decode cL_law 1553 = .ok (.aload_n 2, 1) := by decide +kernel
theorem dL_law_1554 : decode cL_law 1554 = .ok (.invokevirtual 91, 3) := by decide +kernel
theorem dL_law_1557 : decode cL_law 1557 = .ok (.iload 5, 2) := by decide +kernel
theorem dL_law_1559 : decode cL_law 1559 = .ok (.if_icmp .eq 5, 3) := by decide +kernel
theorem dL_law_1562 : decode cL_law 1562 = .ok (.iconst 0, 1) := by decide +kernel
theorem dL_law_1563 : decode cL_law 1563 = .ok (.ireturn, 1) := by decide +kernel
theorem dL_law_1564 : decode cL_law 1564 = .ok (.iload 5, 2) := by decide +kernel
theorem dL_law_1566 : decode cL_law 1566 = .ok (.ifCond .ne 15, 3) := by decide +kernel
theorem dL_law_1569 : decode cL_law 1569 = .ok (.aload_n 3, 1) := by decide +kernel
theorem dL_law_1570 : decode cL_law 1570 = .ok (.iconst 0, 1) := by decide +kernel
theorem dL_law_1571 : decode cL_law 1571 = .ok (.laload, 1) := by decide +kernel
theorem dL_law_1572 : decode cL_law 1572 = .ok (.iload 6, 2) := by decide +kernel
theorem dL_law_1574 : decode cL_law 1574 = .ok (.i2l, 1) := by decide +kernel
theorem dL_law_1575 : decode cL_law 1575 = .ok (.lcmp, 1) := by decide +kernel
theorem dL_law_1576 : decode cL_law 1576 = .ok (.ifCond .eq 5, 3) := by decide +kernel
theorem dL_law_1579 : decode cL_law 1579 = .ok (.iconst 0, 1) := by decide +kernel
theorem dL_law_1580 : decode cL_law 1580 = .ok (.ireturn, 1) := by decide +kernel
theorem dL_law_1581 : decode cL_law 1581 = .ok (.goto 58, 3) := by decide +kernel
theorem dL_law_1584 : decode cL_law 1584 = .ok (.aload_n 1, 1) := by decide +kernel
theorem dL_law_1585 : decode cL_law 1585 = .ok (.invokevirtual 181, 3) := by decide +kernel
theorem dL_law_1588 : decode cL_law 1588 = .ok (.dstore 5, 2) := by decide +kernel
theorem dL_law_1590 : decode cL_law 1590 = .ok (.aload_n 2, 1) := by decide +kernel
theorem dL_law_1591 : decode cL_law 1591 = .ok (.invokevirtual 185, 3) := by decide +kernel
theorem dL_law_1594 : decode cL_law 1594 = .ok (.dstore 7, 2) := by decide +kernel
theorem dL_law_1596 : decode cL_law 1596 = .ok (.dload 5, 2) := by decide +kernel
theorem dL_law_1598 : decode cL_law 1598 = .ok (.dload 7, 2) := by decide +kernel
theorem dL_law_1600 : decode cL_law 1600 = .ok (.dcmp .l, 1) := by decide +kernel
theorem dL_law_1601 : decode cL_law 1601 = .ok (.ifCond .eq 21, 3) := by decide +kernel
theorem dL_law_1604 : decode cL_law 1604 = .ok (.dload 5, 2) := by decide +kernel
theorem dL_law_1606 : decode cL_law 1606 = .ok (.dload 5, 2) := by decide +kernel
theorem dL_law_1608 : decode cL_law 1608 = .ok (.dcmp .l, 1) := by decide +kernel
theorem dL_law_1609 : decode cL_law 1609 = .ok (.ifCond .eq 11, 3) := by decide +kernel
theorem dL_law_1612 : decode cL_law 1612 = .ok (.dload 7, 2) := by decide +kernel
theorem dL_law_1614 : decode cL_law 1614 = .ok (.dload 7, 2) := by decide +kernel
theorem dL_law_1616 : decode cL_law 1616 = .ok (.dcmp .l, 1) := by decide +kernel
theorem dL_law_1617 : decode cL_law 1617 = .ok (.ifCond .ne 5, 3) := by decide +kernel
theorem dL_law_1620 : decode cL_law 1620 = .ok (.iconst 0, 1) := by decide +kernel
theorem dL_law_1621 : decode cL_law 1621 = .ok (.ireturn, 1) := by decide +kernel
theorem dL_law_1622 : decode cL_law 1622 = .ok (.goto 17, 3) := by decide +kernel
theorem dL_law_1625 : decode cL_law 1625 = .ok (.aload_n 1, 1) := by decide +kernel
theorem dL_law_1626 : decode cL_law 1626 = .ok (.invokevirtual 186, 3) := by decide +kernel
theorem dL_law_1629 : decode cL_law 1629 = .ok (.aload_n 2, 1) := by decide +kernel
theorem dL_law_1630 : decode cL_law 1630 = .ok (.invokevirtual 190, 3) := by decide +kernel
theorem dL_law_1633 : decode cL_law 1633 = .ok (.lcmp, 1) := by decide +kernel
theorem dL_law_1634 : decode cL_law 1634 = .ok (.ifCond .eq 5, 3) := by decide +kernel
theorem dL_law_1637 : decode cL_law 1637 = .ok (.iconst 0, 1) := by decide +kernel
theorem dL_law_1638 : decode cL_law 1638 = .ok (.ireturn, 1) := by decide +kernel
theorem dL_law_1639 : decode cL_law 1639 = .ok (.iinc 4 7, 3) := by decide +kernel
theorem dL_law_1642 : decode cL_law 1642 = .ok (.goto (-1619), 3) := by decide +kernel
theorem dL_law_1645 : decode cL_law 1645 = .ok (.iconst 1, 1) := by decide +kernel
theorem dL_law_1646 : decode cL_law 1646 = .ok (.ireturn, 1) := by decide +kernel
