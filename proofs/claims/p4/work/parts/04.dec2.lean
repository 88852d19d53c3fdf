theorem dX6_readList_65 : decode cX6_readList 65 = .ok (.invokevirtual 102, 3) := by decide +kernel
theorem dX6_readList_68 : decode cX6_readList 68 = .ok (.istore 6, 2) := by decide +kernel
theorem dX6_readList_70 : decode cX6_readList 70 = .ok (.iinc 7 1, 3) := by decide +kernel
theorem dX6_readList_73 : decode cX6_readList 73 = .ok (.goto (-30), 3) := by decide +kernel
theorem dX6_readList_76 : decode cX6_readList 76 = .ok (.return_, 1) := by decide +kernel
theorem dX6_readRow_0 : decode cX6_readRow 0 = .ok (.aload_n 1, 1) := by decide +kernel
theorem dX6_readRow_1 : decode cX6_readRow 1 = .ok (.invokevirtual 106, 3) := by decide +kernel
theorem dX6_readRow_4 : decode cX6_readRow 4 = .ok (.istore_n 2, 1) := by decide +kernel
theorem dX6_readRow_5 : decode cX6_readRow 5 = .ok (.aload_n 1, 1) := by decide +kernel
theorem dX6_readRow_6 : decode cX6_readRow 6 = .ok (.iconst 1, 1) := by decide +kernel
theorem dX6_readRow_7 : decode cX6_readRow 7 = .ok (.invokevirtual 109, 3) := by decide +kernel
theorem dX6_readRow_10 : decode cX6_readRow 10 = .ok (.l2i, 1) := by decide +kernel
theorem dX6_readRow_11 : decode cX6_readRow 11 = .ok (.istore_n 3, 1) := by decide +kernel
theorem dX6_readRow_12 : decode cX6_readRow 12 = .ok (.iload_n 3, 1) := by decide +kernel
theorem dX6_readRow_13 : decode cX6_readRow 13 = .ok (.tableswitch 161 0 7 #[47, 161, 161, 161, 49, 83, 110, 134], 47) := by decide +kernel
theorem dX6_readRow_60 : decode cX6_readRow 60 = .ok (.iconst 0, 1) := by decide +kernel
theorem dX6_readRow_61 : decode cX6_readRow 61 = .ok (.ireturn, 1) := by decide +kernel
theorem dX6_readRow_62 : decode cX6_readRow 62 = .ok (.aload_n 0, 1) := by decide +kernel
theorem dX6_readRow_63 : decode cX6_readRow 63 = .ok (.getfield 71, 3) := by decide +kernel
theorem dX6_readRow_66 : decode cX6_readRow 66 = .ok (.aload_n 1, 1) := by decide +kernel
theorem dX6_readRow_67 : decode cX6_readRow 67 = .ok (.invokevirtual 113, 3) := by decide +kernel
theorem dX6_readRow_70 : decode cX6_readRow 70 = .ok (.invokestatic 55, 3) := by decide +kernel
theorem dX6_readRow_73 : decode cX6_readRow 73 = .ok (.lstore 4, 2) := by decide +kernel
theorem dX6_readRow_75 : decode cX6_readRow 75 = .ok (.aload_n 0, 1) := by decide +kernel
theorem dX6_readRow_76 : decode cX6_readRow 76 = .ok (.aload_n 1, 1) := by decide +kernel
theorem dX6_readRow_77 : decode cX6_readRow 77 = .ok (.lload 4, 2) := by decide +kernel
theorem dX6_readRow_79 : decode cX6_readRow 79 = .ok (.aload_n 0, 1) := by decide +kernel
theorem dX6_readRow_80 : decode cX6_readRow 80 = .ok (.getfield 71, 3) := by decide +kernel
theorem dX6_readRow_83 : decode cX6_readRow 83 = .ok (.aload_n 1, 1) := by decide +kernel
theorem dX6_readRow_84 : decode cX6_readRow 84 = .ok (.invokevirtual 113, 3) := by decide +kernel
theorem dX6_readRow_87 : decode cX6_readRow 87 = .ok (.invokestatic 55, 3) := by decide +kernel
theorem dX6_readRow_90 : decode cX6_readRow 90 = .ok (.iload_n 2, 1) := by decide +kernel
theorem dX6_readRow_91 : decode cX6_readRow 91 = .ok (.invokevirtual 51, 3) := by decide +kernel
theorem dX6_readRow_94 : decode cX6_readRow 94 = .ok (.iconst 1, 1) := by decide +kernel
theorem dX6_readRow_95 : decode cX6_readRow 95 = .ok (.ireturn, 1) := by decide +kernel
theorem dX6_readRow_96 : decode cX6_readRow 96 = .ok (.aload_n 0, 1) := by decide +kernel
theorem dX6_readRow_97 : decode cX6_readRow 97 = .ok (.aload_n 1, 1) := by decide +kernel
theorem dX6_readRow_98 : decode cX6_readRow 98 = .ok (.bipush 8, 2) := by decide +kernel
theorem dX6_readRow_100 : decode cX6_readRow 100 = .ok (.invokevirtual 109, 3) := by decide +kernel
theorem dX6_readRow_103 : decode cX6_readRow 103 = .ok (.putfield 71, 3) := by decide +kernel
theorem dX6_readRow_106 : decode cX6_readRow 106 = .ok (.aload_n 0, 1) := by decide +kernel
theorem dX6_readRow_107 : decode cX6_readRow 107 = .ok (.getfield 71, 3) := by decide +kernel
theorem dX6_readRow_110 : decode cX6_readRow 110 = .ok (.lconst 0, 1) := by decide +kernel
theorem dX6_readRow_111 : decode cX6_readRow 111 = .ok (.lcmp, 1) := by decide +kernel
theorem dX6_readRow_112 : decode cX6_readRow 112 = .ok (.ifCond .ge 9, 3) := by decide +kernel
theorem dX6_readRow_115 : decode cX6_readRow 115 = .ok (.aload_n 1, 1) := by decide +kernel
theorem dX6_readRow_116 : decode cX6_readRow 116 = .ok (.iconst 2, 1) := by decide +kernel
theorem dX6_readRow_117 : decode cX6_readRow 117 = .ok (.iload_n 2, 1) := by decide +kernel
theorem dX6_readRow_118 : decode cX6_readRow 118 = .ok (.invokevirtual 89, 3) := by decide +kernel
theorem dX6_readRow_121 : decode cX6_readRow 121 = .ok (.iconst 1, 1) := by decide +kernel
theorem dX6_readRow_122 : decode cX6_readRow 122 = .ok (.ireturn, 1) := by decide +kernel
theorem dX6_readRow_123 : decode cX6_readRow 123 = .ok (.aload_n 1, 1) := by decide +kernel
theorem dX6_readRow_124 : decode cX6_readRow 124 = .ok (.bipush 8, 2) := by decide +kernel
theorem dX6_readRow_126 : decode cX6_readRow 126 = .ok (.invokevirtual 109, 3) := by decide +kernel
theorem dX6_readRow_129 : decode cX6_readRow 129 = .ok (.lstore 4, 2) := by decide +kernel
theorem dX6_readRow_131 : decode cX6_readRow 131 = .ok (.aload_n 0, 1) := by decide +kernel
theorem dX6_readRow_132 : decode cX6_readRow 132 = .ok (.aload_n 1, 1) := by decide +kernel
theorem dX6_readRow_133 : decode cX6_readRow 133 = .ok (.lload 4, 2) := by decide +kernel
theorem dX6_readRow_135 : decode cX6_readRow 135 = .ok (.aload_n 1, 1) := by decide +kernel
theorem dX6_readRow_136 : decode cX6_readRow 136 = .ok (.bipush 8, 2) := by decide +kernel
theorem dX6_readRow_138 : decode cX6_readRow 138 = .ok (.invokevirtual 109, 3) := by decide +kernel
theorem dX6_readRow_141 : decode cX6_readRow 141 = .ok (.iload_n 2, 1) := by decide +kernel
theorem dX6_readRow_142 : decode cX6_readRow 142 = .ok (.invokevirtual 51, 3) := by decide +kernel
theorem dX6_readRow_145 : decode cX6_readRow 145 = .ok (.iconst 1, 1) := by decide +kernel
theorem dX6_readRow_146 : decode cX6_readRow 146 = .ok (.ireturn, 1) := by decide +kernel
theorem dX6_readRow_147 : decode cX6_readRow 147 = .ok (.aload_n 1, 1) := by decide +kernel
theorem dX6_readRow_148 : decode cX6_readRow 148 = .ok (.bipush 8, 2) := by decide +kernel
theorem dX6_readRow_150 : decode cX6_readRow 150 = .ok (.invokevirtual 109, 3) := by decide +kernel
theorem dX6_readRow_153 : decode cX6_readRow 153 = .ok (.lstore 4, 2) := by decide +kernel
theorem dX6_readRow_155 : decode cX6_readRow 155 = .ok (.aload_n 0, 1) := by decide +kernel
theorem dX6_readRow_156 : decode cX6_readRow 156 = .ok (.aload_n 1, 1) := by decide +kernel
theorem dX6_readRow_157 : decode cX6_readRow 157 = .ok (.lload 4, 2) := by decide +kernel
theorem dX6_readRow_159 : decode cX6_readRow 159 = .ok (.lload 4, 2) := by decide +kernel
theorem dX6_readRow_161 : decode cX6_readRow 161 = .ok (.aload_n 1, 1) := by decide +kernel
theorem dX6_readRow_162 : decode cX6_readRow 162 = .ok (.invokevirtual 113, 3) := by decide +kernel
theorem dX6_readRow_165 : decode cX6_readRow 165 = .ok (.invokestatic 55, 3) := by decide +kernel
theorem dX6_readRow_168 : decode cX6_readRow 168 = .ok (.iload_n 2, 1) := by decide +kernel
theorem dX6_readRow_169 : decode cX6_readRow 169 = .ok (.invokevirtual 51, 3) := by decide +kernel
theorem dX6_readRow_172 : decode cX6_readRow 172 = .ok (.iconst 1, 1) := by decide +kernel
theorem dX6_readRow_173 : decode cX6_readRow 173 = .ok (.ireturn, 1) := by decide +kernel
theorem dX6_readRow_174 : decode cX6_readRow 174 = .ok (.aload_n 1, 1) := by decide +kernel
theorem dX6_readRow_175 : decode cX6_readRow 175 = .ok (.iconst 2, 1) := by decide +kernel
theorem dX6_readRow_176 : decode cX6_readRow 176 = .ok (.iload_n 2, 1) := by decide +kernel
theorem dX6_readRow_177 : decode cX6_readRow 177 = .ok (.invokevirtual 89, 3) := by decide +kernel
theorem dX6_readRow_180 : decode cX6_readRow 180 = .ok (.iconst 0, 1) := by decide +kernel
theorem dX6_readRow_181 : decode cX6_readRow 181 = .ok (.ireturn, 1) := by decide +kernel
theorem dX6_add_0 : decode cX6_add 0 = .ok (.lload_n 2, 1) := by decide +kernel
theorem dX6_add_1 : decode cX6_add 1 = .ok (.lconst 0, 1) := by decide +kernel
theorem dX6_add_2 : decode cX6_add 2 = .ok (.lcmp, 1) := by decide +kernel
theorem dX6_add_3 : decode cX6_add 3 = .ok (.ifCond .lt 10, 3) := by decide +kernel
theorem dX6_add_6 : decode cX6_add 6 = .ok (.lload 4, 2) := by decide +kernel
theorem dX6_add_8 : decode cX6_add 8 = .ok (.lload_n 2, 1) := by decide +kernel
theorem dX6_add_9 : decode cX6_add 9 = .ok (.lcmp, 1) := by decide +kernel
theorem dX6_add_10 : decode cX6_add 10 = .ok (.ifCond .ge 10, 3) := by decide +kernel
theorem dX6_add_13 : decode cX6_add 13 = .ok (.aload_n 1, 1) := by decide +kernel
theorem dX6_add_14 : decode cX6_add 14 = .ok (.iconst 2, 1) := by decide +kernel
theorem dX6_add_15 : decode cX6_add 15 = .ok (.iload 6, 2) := by decide +kernel
theorem dX6_add_17 : decode cX6_add 17 = .ok (.invokevirtual 89, 3) := by decide +kernel
theorem dX6_add_20 : decode cX6_add 20 = .ok (.aload_n 0, 1) := by decide +kernel
theorem dX6_add_21 : decode cX6_add 21 = .ok (.getfield 18, 3) := by decide +kernel
theorem dX6_add_24 : decode cX6_add 24 = .ok (.sipush 200, 3) := by decide +kernel
theorem dX6_add_27 : decode cX6_add 27 = .ok (.if_icmp .lt 10, 3) := by decide +kernel
theorem dX6_add_30 : decode cX6_add 30 = .ok (.aload_n 1, 1) := by decide +kernel
theorem dX6_add_31 : decode cX6_add 31 = .ok (.iconst 4, 1) := by decide +kernel
theorem dX6_add_32 : decode cX6_add 32 = .ok (.iload 6, 2) := by decide +kernel
theorem dX6_add_34 : decode cX6_add 34 = .ok (.invokevirtual 89, 3) := by decide +kernel
theorem dX6_add_37 : decode cX6_add 37 = .ok (.aload_n 1, 1) := by decide +kernel
theorem dX6_add_38 : decode cX6_add 38 = .ok (.invokevirtual 33, 3) := by decide +kernel
theorem dX6_add_41 : decode cX6_add 41 = .ok (.ifCond .ne 4, 3) := by decide +kernel
theorem dX6_add_44 : decode cX6_add 44 = .ok (.return_, 1) := by decide +kernel
theorem dX6_add_45 : decode cX6_add 45 = .ok (.aload_n 0, 1) := by decide +kernel
theorem dX6_add_46 : decode cX6_add 46 = .ok (.getfield 9, 3) := by decide +kernel
theorem dX6_add_49 : decode cX6_add 49 = .ok (.aload_n 0, 1) := by decide +kernel
theorem dX6_add_50 : decode cX6_add 50 = .ok (.getfield 18, 3) := by decide +kernel
theorem dX6_add_53 : decode cX6_add 53 = .ok (.lload_n 2, 1) := by decide +kernel
theorem dX6_add_54 : decode cX6_add 54 = .ok (.invokestatic 117, 3) := by decide +kernel
theorem dX6_add_57 : decode cX6_add 57 = .ok (.aload_n 0, 1) := by decide +kernel
theorem dX6_add_58 : decode cX6_add 58 = .ok (.getfield 15, 3) := by decide +kernel
theorem dX6_add_61 : decode cX6_add 61 = .ok (.aload_n 0, 1) := by decide +kernel
theorem dX6_add_62 : decode cX6_add 62 = .ok (.getfield 18, 3) := by decide +kernel
theorem dX6_add_65 : decode cX6_add 65 = .ok (.lload 4, 2) := by decide +kernel
theorem dX6_add_67 : decode cX6_add 67 = .ok (.invokestatic 117, 3) := by decide +kernel
theorem dX6_add_70 : decode cX6_add 70 = .ok (.aload_n 0, 1) := by decide +kernel
theorem dX6_add_71 : decode cX6_add 71 = .ok (.dup, 1) := by decide +kernel
theorem dX6_add_72 : decode cX6_add 72 = .ok (.getfield 18, 3) := by decide +kernel
theorem dX6_add_75 : decode cX6_add 75 = .ok (.iconst 1, 1) := by decide +kernel
theorem dX6_add_76 : decode cX6_add 76 = .ok (.iadd, 1) := by decide +kernel
theorem dX6_add_77 : decode cX6_add 77 = .ok (.putfield 18, 3) := by decide +kernel
theorem dX6_add_80 : decode cX6_add 80 = .ok (.return_, 1) := by decide +kernel
theorem dX6_total_0 : decode cX6_total 0 = .ok (.aload_n 0, 1) := by decide +kernel
theorem dX6_total_1 : decode cX6_total 1 = .ok (.getfield 18, 3) := by decide +kernel
theorem dX6_total_4 : decode cX6_total 4 = .ok (.ireturn, 1) := by decide +kernel
theorem dX6_oneHolds_0 : decode cX6_oneHolds 0 = .ok (.iload_n 1, 1) := by decide +kernel
theorem dX6_oneHolds_1 : decode cX6_oneHolds 1 = .ok (.istore 5, 2) := by decide +kernel
theorem dX6_oneHolds_3 : decode cX6_oneHolds 3 = .ok (.iload 5, 2) := by decide +kernel
theorem dX6_oneHolds_5 : decode cX6_oneHolds 5 = .ok (.iload_n 1, 1) := by decide +kernel
theorem dX6_oneHolds_6 : decode cX6_oneHolds 6 = .ok (.iload_n 2, 1) := by decide +kernel
theorem dX6_oneHolds_7 : decode cX6_oneHolds 7 = .ok (.iadd, 1) := by decide +kernel
theorem dX6_oneHolds_8 : decode cX6_oneHolds 8 = .ok (.if_icmp .ge 48, 3) := by decide +kernel
theorem dX6_oneHolds_11 : decode cX6_oneHolds 11 = .ok (.iload 5, 2) := by decide +kernel
theorem dX6_oneHolds_13 : decode cX6_oneHolds 13 = .ok (.aload_n 0, 1) := by decide +kernel
theorem dX6_oneHolds_14 : decode cX6_oneHolds 14 = .ok (.getfield 18, 3) := by decide +kernel
theorem dX6_oneHolds_17 : decode cX6_oneHolds 17 = .ok (.if_icmp .ge 39, 3) := by decide +kernel
theorem dX6_oneHolds_20 : decode cX6_oneHolds 20 = .ok (.lload_n 3, 1) := by decide +kernel
theorem dX6_oneHolds_21 : decode cX6_oneHolds 21 = .ok (.aload_n 0, 1) := by decide +kernel
theorem dX6_oneHolds_22 : decode cX6_oneHolds 22 = .ok (.getfield 9, 3) := by decide +kernel
theorem dX6_oneHolds_25 : decode cX6_oneHolds 25 = .ok (.iload 5, 2) := by decide +kernel
theorem dX6_oneHolds_27 : decode cX6_oneHolds 27 = .ok (.invokestatic 121, 3) := by decide +kernel
theorem dX6_oneHolds_30 : decode cX6_oneHolds 30 = .ok (.lcmp, 1) := by decide +kernel
theorem dX6_oneHolds_31 : decode cX6_oneHolds 31 = .ok (.ifCond .lt 19, 3) := by decide +kernel
theorem dX6_oneHolds_34 : decode cX6_oneHolds 34 = .ok (.lload_n 3, 1) := by decide +kernel
theorem dX6_oneHolds_35 : decode cX6_oneHolds 35 = .ok (.aload_n 0, 1) := by decide +kernel
theorem dX6_oneHolds_36 : decode cX6_oneHolds 36 = .ok (.getfield 15, 3) := by decide +kernel
theorem dX6_oneHolds_39 : decode cX6_oneHolds 39 = .ok (.iload 5, 2) := by decide +kernel
theorem dX6_oneHolds_41 : decode cX6_oneHolds 41 = .ok (.invokestatic 121, 3) := by decide +kernel
theorem dX6_oneHolds_44 : decode cX6_oneHolds 44 = .ok (.lcmp, 1) := by decide +kernel
theorem dX6_oneHolds_45 : decode cX6_oneHolds 45 = .ok (.ifCond .ge 5, 3) := by decide +kernel
theorem dX6_oneHolds_48 : decode cX6_oneHolds 48 = .ok (.iconst 1, 1) := by decide +kernel
theorem dX6_oneHolds_49 : decode cX6_oneHolds 49 = .ok (.ireturn, 1) := by decide +kernel
theorem dX6_oneHolds_50 : decode cX6_oneHolds 50 = .ok (.iinc 5 1, 3) := by decide +kernel
theorem dX6_oneHolds_53 : decode cX6_oneHolds 53 = .ok (.goto (-50), 3) := by decide +kernel
theorem dX6_oneHolds_56 : decode cX6_oneHolds 56 = .ok (.iconst 0, 1) := by decide +kernel
theorem dX6_oneHolds_57 : decode cX6_oneHolds 57 = .ok (.ireturn, 1) := by decide +kernel
theorem dX7_init_0 : decode cX7_init 0 = .ok (.aload_n 0, 1) := by decide +kernel
theorem dX7_init_1 : decode cX7_init 1 = .ok (.invokespecial 3, 3) := by decide +kernel
theorem dX7_init_4 : decode cX7_init 4 = .ok (.aload_n 0, 1) := by decide +kernel
theorem dX7_init_5 : decode cX7_init 5 = .ok (.bipush 30, 2) := by decide +kernel
theorem dX7_init_7 : decode cX7_init 7 = .ok (.newarray .int, 2) := by decide +kernel
theorem dX7_init_9 : decode cX7_init 9 = .ok (.putfield 9, 3) := by decide +kernel
theorem dX7_init_12 : decode cX7_init 12 = .ok (.aload_n 0, 1) := by decide +kernel
theorem dX7_init_13 : decode cX7_init 13 = .ok (.bipush 30, 2) := by decide +kernel
theorem dX7_init_15 : decode cX7_init 15 = .ok (.newarray .int, 2) := by decide +kernel
theorem dX7_init_17 : decode cX7_init 17 = .ok (.putfield 15, 3) := by decide +kernel
theorem dX7_init_20 : decode cX7_init 20 = .ok (.aload_n 0, 1) := by decide +kernel
theorem dX7_init_21 : decode cX7_init 21 = .ok (.bipush 7, 2) := by decide +kernel
theorem dX7_init_23 : decode cX7_init 23 = .ok (.newarray .int, 2) := by decide +kernel
theorem dX7_init_25 : decode cX7_init 25 = .ok (.putfield 18, 3) := by decide +kernel
theorem dX7_init_28 : decode cX7_init 28 = .ok (.return_, 1) := by decide +kernel
theorem dX7_read_0 : decode cX7_read 0 = .ok (.aload_n 0, 1) := by decide +kernel
theorem dX7_read_1 : decode cX7_read 1 = .ok (.iconst 0, 1) := by decide +kernel
theorem dX7_read_2 : decode cX7_read 2 = .ok (.putfield 21, 3) := by decide +kernel
theorem dX7_read_5 : decode cX7_read 5 = .ok (.aload_n 0, 1) := by decide +kernel
theorem dX7_read_6 : decode cX7_read 6 = .ok (.getfield 18, 3) := by decide +kernel
theorem dX7_read_9 : decode cX7_read 9 = .ok (.iconst (-1), 1) := by decide +kernel
theorem dX7_read_10 : decode cX7_read 10 = .ok (.invokestatic 25, 3) := by decide +kernel
theorem dX7_read_13 : decode cX7_read 13 = .ok (.aload_n 0, 1) := by decide +kernel
theorem dX7_read_14 : decode cX7_read 14 = .ok (.aload_n 1, 1) := by decide +kernel
theorem dX7_read_15 : decode cX7_read 15 = .ok (.invokevirtual 31, 3) := by decide +kernel
theorem dX7_read_18 : decode cX7_read 18 = .ok (.iconst 0, 1) := by decide +kernel
theorem dX7_read_19 : decode cX7_read 19 = .ok (.istore_n 2, 1) := by decide +kernel
theorem dX7_read_20 : decode cX7_read 20 = .ok (.iload_n 2, 1) := by decide +kernel
theorem dX7_read_21 : decode cX7_read 21 = .ok (.bipush 30, 2) := by decide +kernel
theorem dX7_read_23 : decode cX7_read 23 = .ok (.if_icmp .ge 30, 3) := by decide +kernel
theorem dX7_read_26 : decode cX7_read 26 = .ok (.iload_n 2, 1) := by decide +kernel
theorem dX7_read_27 : decode cX7_read 27 = .ok (.aload_n 0, 1) := by decide +kernel
theorem dX7_read_28 : decode cX7_read 28 = .ok (.getfield 21, 3) := by decide +kernel
theorem dX7_read_31 : decode cX7_read 31 = .ok (.if_icmp .ge 22, 3) := by decide +kernel
theorem dX7_read_34 : decode cX7_read 34 = .ok (.aload_n 1, 1) := by decide +kernel
theorem dX7_read_35 : decode cX7_read 35 = .ok (.invokevirtual 35, 3) := by decide +kernel
theorem dX7_read_38 : decode cX7_read 38 = .ok (.ifCond .eq 15, 3) := by decide +kernel
theorem dX7_read_41 : decode cX7_read 41 = .ok (.aload_n 0, 1) := by decide +kernel
theorem dX7_read_42 : decode cX7_read 42 = .ok (.aload_n 1, 1) := by decide +kernel
theorem dX7_read_43 : decode cX7_read 43 = .ok (.iload_n 2, 1) := by decide +kernel
theorem dX7_read_44 : decode cX7_read 44 = .ok (.invokevirtual 41, 3) := by decide +kernel
theorem dX7_read_47 : decode cX7_read 47 = .ok (.iinc 2 1, 3) := by decide +kernel
theorem dX7_read_50 : decode cX7_read 50 = .ok (.goto (-30), 3) := by decide +kernel
theorem dX7_read_53 : decode cX7_read 53 = .ok (.iconst 0, 1) := by decide +kernel
theorem dX7_read_54 : decode cX7_read 54 = .ok (.istore_n 2, 1) := by decide +kernel
theorem dX7_read_55 : decode cX7_read 55 = .ok (.iload_n 2, 1) := by decide +kernel
theorem dX7_read_56 : decode cX7_read 56 = .ok (.bipush 30, 2) := by decide +kernel
theorem dX7_read_58 : decode cX7_read 58 = .ok (.if_icmp .ge 30, 3) := by decide +kernel
theorem dX7_read_61 : decode cX7_read 61 = .ok (.iload_n 2, 1) := by decide +kernel
theorem dX7_read_62 : decode cX7_read 62 = .ok (.aload_n 0, 1) := by decide +kernel
theorem dX7_read_63 : decode cX7_read 63 = .ok (.getfield 21, 3) := by decide +kernel
theorem dX7_read_66 : decode cX7_read 66 = .ok (.if_icmp .ge 22, 3) := by decide +kernel
theorem dX7_read_69 : decode cX7_read 69 = .ok (.aload_n 1, 1) := by decide +kernel
theorem dX7_read_70 : decode cX7_read 70 = .ok (.invokevirtual 35, 3) := by decide +kernel
theorem dX7_read_73 : decode cX7_read 73 = .ok (.ifCond .eq 15, 3) := by decide +kernel
theorem dX7_read_76 : decode cX7_read 76 = .ok (.aload_n 0, 1) := by decide +kernel
theorem dX7_read_77 : decode cX7_read 77 = .ok (.aload_n 1, 1) := by decide +kernel
theorem dX7_read_78 : decode cX7_read 78 = .ok (.iload_n 2, 1) := by decide +kernel
theorem dX7_read_79 : decode cX7_read 79 = .ok (.invokevirtual 45, 3) := by decide +kernel
theorem dX7_read_82 : decode cX7_read 82 = .ok (.iinc 2 1, 3) := by decide +kernel
theorem dX7_read_85 : decode cX7_read 85 = .ok (.goto (-30), 3) := by decide +kernel
theorem dX7_read_88 : decode cX7_read 88 = .ok (.return_, 1) := by decide +kernel
theorem dX7_readHead_0 : decode cX7_readHead 0 = .ok (.iconst 0, 1) := by decide +kernel
theorem dX7_readHead_1 : decode cX7_readHead 1 = .ok (.istore_n 2, 1) := by decide +kernel
theorem dX7_readHead_2 : decode cX7_readHead 2 = .ok (.iload_n 2, 1) := by decide +kernel
theorem dX7_readHead_3 : decode cX7_readHead 3 = .ok (.getstatic 48, 3) := by decide +kernel
theorem dX7_readHead_6 : decode cX7_readHead 6 = .ok (.arraylength, 1) := by decide +kernel
theorem dX7_readHead_7 : decode cX7_readHead 7 = .ok (.if_icmp .ge 36, 3) := by decide +kernel
theorem dX7_readHead_10 : decode cX7_readHead 10 = .ok (.iload_n 2, 1) := by decide +kernel
theorem dX7_readHead_11 : decode cX7_readHead 11 = .ok (.aload_n 1, 1) := by decide +kernel
theorem dX7_readHead_12 : decode cX7_readHead 12 = .ok (.invokevirtual 51, 3) := by decide +kernel
theorem dX7_readHead_15 : decode cX7_readHead 15 = .ok (.if_icmp .ge 28, 3) := by decide +kernel
theorem dX7_readHead_18 : decode cX7_readHead 18 = .ok (.aload_n 1, 1) := by decide +kernel
theorem dX7_readHead_19 : decode cX7_readHead 19 = .ok (.iload_n 2, 1) := by decide +kernel
theorem dX7_readHead_20 : decode cX7_readHead 20 = .ok (.invokevirtual 55, 3) := by decide +kernel
theorem dX7_readHead_23 : decode cX7_readHead 23 = .ok (.getstatic 48, 3) := by decide +kernel
theorem dX7_readHead_26 : decode cX7_readHead 26 = .ok (.iload_n 2, 1) := by decide +kernel
theorem dX7_readHead_27 : decode cX7_readHead 27 = .ok (.iaload, 1) := by decide +kernel
theorem dX7_readHead_28 : decode cX7_readHead 28 = .ok (.if_icmp .eq 9, 3) := by decide +kernel
theorem dX7_readHead_31 : decode cX7_readHead 31 = .ok (.aload_n 1, 1) := by decide +kernel
theorem dX7_readHead_32 : decode cX7_readHead 32 = .ok (.iconst 2, 1) := by decide +kernel
theorem dX7_readHead_33 : decode cX7_readHead 33 = .ok (.iload_n 2, 1) := by decide +kernel
theorem dX7_readHead_34 : decode cX7_readHead 34 = .ok (.invokevirtual 59, 3) := by decide +kernel
theorem dX7_readHead_37 : decode cX7_readHead 37 = .ok (.iinc 2 1, 3) := by decide +kernel
theorem dX7_readHead_40 : decode cX7_readHead 40 = .ok (.goto (-38), 3) := by decide +kernel
theorem dX7_readHead_43 : decode cX7_readHead 43 = .ok (.aload_n 1, 1) := by decide +kernel
theorem dX7_readHead_44 : decode cX7_readHead 44 = .ok (.invokevirtual 51, 3) := by decide +kernel
theorem dX7_readHead_47 : decode cX7_readHead 47 = .ok (.bipush 64, 2) := by decide +kernel
theorem dX7_readHead_49 : decode cX7_readHead 49 = .ok (.if_icmp .ge 9, 3) := by decide +kernel
theorem dX7_readHead_52 : decode cX7_readHead 52 = .ok (.aload_n 1, 1) := by decide +kernel
theorem dX7_readHead_53 : decode cX7_readHead 53 = .ok (.iconst 1, 1) := by decide +kernel
theorem dX7_readHead_54 : decode cX7_readHead 54 = .ok (.iconst 0, 1) := by decide +kernel
theorem dX7_readHead_55 : decode cX7_readHead 55 = .ok (.invokevirtual 59, 3) := by decide +kernel
theorem dX7_readHead_58 : decode cX7_readHead 58 = .ok (.aload_n 1, 1) := by decide +kernel
theorem dX7_readHead_59 : decode cX7_readHead 59 = .ok (.bipush 58, 2) := by decide +kernel
theorem dX7_readHead_61 : decode cX7_readHead 61 = .ok (.iconst 2, 1) := by decide +kernel
theorem dX7_readHead_62 : decode cX7_readHead 62 = .ok (.invokevirtual 63, 3) := by decide +kernel
theorem dX7_readHead_65 : decode cX7_readHead 65 = .ok (.ldc2_w 67, 3) := by decide +kernel
theorem dX7_readHead_68 : decode cX7_readHead 68 = .ok (.lcmp, 1) := by decide +kernel
theorem dX7_readHead_69 : decode cX7_readHead 69 = .ok (.ifCond .eq 10, 3) := by decide +kernel
theorem dX7_readHead_72 : decode cX7_readHead 72 = .ok (.aload_n 1, 1) := by decide +kernel
theorem dX7_readHead_73 : decode cX7_readHead 73 = .ok (.iconst 2, 1) := by decide +kernel
theorem dX7_readHead_74 : decode cX7_readHead 74 = .ok (.bipush 58, 2) := by decide +kernel
theorem dX7_readHead_76 : decode cX7_readHead 76 = .ok (.invokevirtual 59, 3) := by decide +kernel
theorem dX7_readHead_79 : decode cX7_readHead 79 = .ok (.aload_n 1, 1) := by decide +kernel
theorem dX7_readHead_80 : decode cX7_readHead 80 = .ok (.bipush 60, 2) := by decide +kernel
theorem dX7_readHead_82 : decode cX7_readHead 82 = .ok (.iconst 2, 1) := by decide +kernel
theorem dX7_readHead_83 : decode cX7_readHead 83 = .ok (.invokevirtual 63, 3) := by decide +kernel
theorem dX7_readHead_86 : decode cX7_readHead 86 = .ok (.lstore_n 2, 1) := by decide +kernel
theorem dX7_readHead_87 : decode cX7_readHead 87 = .ok (.lload_n 2, 1) := by decide +kernel
theorem dX7_readHead_88 : decode cX7_readHead 88 = .ok (.lconst 0, 1) := by decide +kernel
theorem dX7_readHead_89 : decode cX7_readHead 89 = .ok (.lcmp, 1) := by decide +kernel
theorem dX7_readHead_90 : decode cX7_readHead 90 = .ok (.ifCond .ne 13, 3) := by decide +kernel
theorem dX7_readHead_93 : decode cX7_readHead 93 = .ok (.aload_n 1, 1) := by decide +kernel
theorem dX7_readHead_94 : decode cX7_readHead 94 = .ok (.iconst 2, 1) := by decide +kernel
theorem dX7_readHead_95 : decode cX7_readHead 95 = .ok (.bipush 60, 2) := by decide +kernel
theorem dX7_readHead_97 : decode cX7_readHead 97 = .ok (.invokevirtual 59, 3) := by decide +kernel
theorem dX7_readHead_100 : decode cX7_readHead 100 = .ok (.goto 18, 3) := by decide +kernel
theorem dX7_readHead_103 : decode cX7_readHead 103 = .ok (.lload_n 2, 1) := by decide +kernel
theorem dX7_readHead_104 : decode cX7_readHead 104 = .ok (.ldc2_w 69, 3) := by decide +kernel
theorem dX7_readHead_107 : decode cX7_readHead 107 = .ok (.lcmp, 1) := by decide +kernel
theorem dX7_readHead_108 : decode cX7_readHead 108 = .ok (.ifCond .le 10, 3) := by decide +kernel
theorem dX7_readHead_111 : decode cX7_readHead 111 = .ok (.aload_n 1, 1) := by decide +kernel
theorem dX7_readHead_112 : decode cX7_readHead 112 = .ok (.iconst 4, 1) := by decide +kernel
theorem dX7_readHead_113 : decode cX7_readHead 113 = .ok (.bipush 60, 2) := by decide +kernel
theorem dX7_readHead_115 : decode cX7_readHead 115 = .ok (.invokevirtual 59, 3) := by decide +kernel
theorem dX7_readHead_118 : decode cX7_readHead 118 = .ok (.aload_n 1, 1) := by decide +kernel
theorem dX7_readHead_119 : decode cX7_readHead 119 = .ok (.bipush 62, 2) := by decide +kernel
theorem dX7_readHead_121 : decode cX7_readHead 121 = .ok (.iconst 2, 1) := by decide +kernel
theorem dX7_readHead_122 : decode cX7_readHead 122 = .ok (.invokevirtual 63, 3) := by decide +kernel
theorem dX7_readHead_125 : decode cX7_readHead 125 = .ok (.lstore 4, 2) := by decide +kernel
theorem dX7_readHead_127 : decode cX7_readHead 127 = .ok (.lload 4, 2) := by decide +kernel
theorem dX7_readHead_129 : decode cX7_readHead 129 = .ok (.lload_n 2, 1) := by decide +kernel
theorem dX7_readHead_130 : decode cX7_readHead 130 = .ok (.lcmp, 1) := by decide +kernel
theorem dX7_readHead_131 : decode cX7_readHead 131 = .ok (.ifCond .lt 10, 3) := by decide +kernel
theorem dX7_readHead_134 : decode cX7_readHead 134 = .ok (.aload_n 1, 1) := by decide +kernel
theorem dX7_readHead_135 : decode cX7_readHead 135 = .ok (.iconst 3, 1) := by decide +kernel
theorem dX7_readHead_136 : decode cX7_readHead 136 = .ok (.bipush 62, 2) := by decide +kernel
theorem dX7_readHead_138 : decode cX7_readHead 138 = .ok (.invokevirtual 59, 3) := by decide +kernel
theorem dX7_readHead_141 : decode cX7_readHead 141 = .ok (.aload_n 1, 1) := by decide +kernel
theorem dX7_readHead_142 : decode cX7_readHead 142 = .ok (.bipush 40, 2) := by decide +kernel
theorem dX7_readHead_144 : decode cX7_readHead 144 = .ok (.bipush 8, 2) := by decide +kernel
theorem dX7_readHead_146 : decode cX7_readHead 146 = .ok (.invokevirtual 63, 3) := by decide +kernel
theorem dX7_readHead_149 : decode cX7_readHead 149 = .ok (.lstore 6, 2) := by decide +kernel
theorem dX7_readHead_151 : decode cX7_readHead 151 = .ok (.aload_n 1, 1) := by decide +kernel
theorem dX7_readHead_152 : decode cX7_readHead 152 = .ok (.lload 6, 2) := by decide +kernel
theorem dX7_readHead_154 : decode cX7_readHead 154 = .ok (.lload_n 2, 1) := by decide +kernel
theorem dX7_readHead_155 : decode cX7_readHead 155 = .ok (.ldc2_w 67, 3) := by decide +kernel
theorem dX7_readHead_158 : decode cX7_readHead 158 = .ok (.lmul, 1) := by decide +kernel
theorem dX7_readHead_159 : decode cX7_readHead 159 = .ok (.invokevirtual 71, 3) := by decide +kernel
theorem dX7_readHead_162 : decode cX7_readHead 162 = .ok (.ifCond .ne 10, 3) := by decide +kernel
theorem dX7_readHead_165 : decode cX7_readHead 165 = .ok (.aload_n 1, 1) := by decide +kernel
theorem dX7_readHead_166 : decode cX7_readHead 166 = .ok (.iconst 1, 1) := by decide +kernel
theorem dX7_readHead_167 : decode cX7_readHead 167 = .ok (.bipush 40, 2) := by decide +kernel
theorem dX7_readHead_169 : decode cX7_readHead 169 = .ok (.invokevirtual 59, 3) := by decide +kernel
theorem dX7_readHead_172 : decode cX7_readHead 172 = .ok (.aload_n 1, 1) := by decide +kernel
theorem dX7_readHead_173 : decode cX7_readHead 173 = .ok (.invokevirtual 35, 3) := by decide +kernel
theorem dX7_readHead_176 : decode cX7_readHead 176 = .ok (.ifCond .eq 23, 3) := by decide +kernel
theorem dX7_readHead_179 : decode cX7_readHead 179 = .ok (.aload_n 0, 1) := by decide +kernel
theorem dX7_readHead_180 : decode cX7_readHead 180 = .ok (.lload_n 2, 1) := by decide +kernel
theorem dX7_readHead_181 : decode cX7_readHead 181 = .ok (.l2i, 1) := by decide +kernel
theorem dX7_readHead_182 : decode cX7_readHead 182 = .ok (.putfield 21, 3) := by decide +kernel
theorem dX7_readHead_185 : decode cX7_readHead 185 = .ok (.aload_n 0, 1) := by decide +kernel
theorem dX7_readHead_186 : decode cX7_readHead 186 = .ok (.lload 4, 2) := by decide +kernel
theorem dX7_readHead_188 : decode cX7_readHead 188 = .ok (.l2i, 1) := by decide +kernel
theorem dX7_readHead_189 : decode cX7_readHead 189 = .ok (.putfield 75, 3) := by decide +kernel
theorem dX7_readHead_192 : decode cX7_readHead 192 = .ok (.aload_n 0, 1) := by decide +kernel
theorem dX7_readHead_193 : decode cX7_readHead 193 = .ok (.lload 6, 2) := by decide +kernel
theorem dX7_readHead_195 : decode cX7_readHead 195 = .ok (.l2i, 1) := by decide +kernel
theorem dX7_readHead_196 : decode cX7_readHead 196 = .ok (.putfield 78, 3) := by decide +kernel
theorem dX7_readHead_199 : decode cX7_readHead 199 = .ok (.return_, 1) := by decide +kernel
theorem dX7_readRow_0 : decode cX7_readRow 0 = .ok (.aload_n 0, 1) := by decide +kernel
theorem dX7_readRow_1 : decode cX7_readRow 1 = .ok (.getfield 78, 3) := by decide +kernel
theorem dX7_readRow_4 : decode cX7_readRow 4 = .ok (.iload_n 2, 1) := by decide +kernel
theorem dX7_readRow_5 : decode cX7_readRow 5 = .ok (.bipush 64, 2) := by decide +kernel
theorem dX7_readRow_7 : decode cX7_readRow 7 = .ok (.imul, 1) := by decide +kernel
theorem dX7_readRow_8 : decode cX7_readRow 8 = .ok (.iadd, 1) := by decide +kernel
theorem dX7_readRow_9 : decode cX7_readRow 9 = .ok (.istore_n 3, 1) := by decide +kernel
theorem dX7_readRow_10 : decode cX7_readRow 10 = .ok (.aload_n 1, 1) := by decide +kernel
theorem dX7_readRow_11 : decode cX7_readRow 11 = .ok (.iload_n 3, 1) := by decide +kernel
theorem dX7_readRow_12 : decode cX7_readRow 12 = .ok (.iconst 4, 1) := by decide +kernel
theorem dX7_readRow_13 : decode cX7_readRow 13 = .ok (.iadd, 1) := by decide +kernel
theorem dX7_readRow_14 : decode cX7_readRow 14 = .ok (.iconst 4, 1) := by decide +kernel
theorem dX7_readRow_15 : decode cX7_readRow 15 = .ok (.invokevirtual 63, 3) := by decide +kernel
theorem dX7_readRow_18 : decode cX7_readRow 18 = .ok (.lstore 4, 2) := by decide +kernel
theorem dX7_readRow_20 : decode cX7_readRow 20 = .ok (.aload_n 1, 1) := by decide +kernel
theorem dX7_readRow_21 : decode cX7_readRow 21 = .ok (.iload_n 3, 1) := by decide +kernel
theorem dX7_readRow_22 : decode cX7_readRow 22 = .ok (.bipush 24, 2) := by decide +kernel
theorem dX7_readRow_24 : decode cX7_readRow 24 = .ok (.iadd, 1) := by decide +kernel
theorem dX7_readRow_25 : decode cX7_readRow 25 = .ok (.bipush 8, 2) := by decide +kernel
theorem dX7_readRow_27 : decode cX7_readRow 27 = .ok (.invokevirtual 63, 3) := by decide +kernel
theorem dX7_readRow_30 : decode cX7_readRow 30 = .ok (.lstore 6, 2) := by decide +kernel
theorem dX7_readRow_32 : decode cX7_readRow 32 = .ok (.aload_n 1, 1) := by decide +kernel
theorem dX7_readRow_33 : decode cX7_readRow 33 = .ok (.iload_n 3, 1) := by decide +kernel
theorem dX7_readRow_34 : decode cX7_readRow 34 = .ok (.bipush 32, 2) := by decide +kernel
theorem dX7_readRow_36 : decode cX7_readRow 36 = .ok (.iadd, 1) := by decide +kernel
theorem dX7_readRow_37 : decode cX7_readRow 37 = .ok (.bipush 8, 2) := by decide +kernel
theorem dX7_readRow_39 : decode cX7_readRow 39 = .ok (.invokevirtual 63, 3) := by decide +kernel
theorem dX7_readRow_42 : decode cX7_readRow 42 = .ok (.lstore 8, 2) := by decide +kernel
theorem dX7_readRow_44 : decode cX7_readRow 44 = .ok (.lload 4, 2) := by decide +kernel
theorem dX7_readRow_46 : decode cX7_readRow 46 = .ok (.lconst 0, 1) := by decide +kernel
theorem dX7_readRow_47 : decode cX7_readRow 47 = .ok (.lcmp, 1) := by decide +kernel
theorem dX7_readRow_48 : decode cX7_readRow 48 = .ok (.ifCond .eq 12, 3) := by decide +kernel
theorem dX7_readRow_51 : decode cX7_readRow 51 = .ok (.lload 4, 2) := by decide +kernel
theorem dX7_readRow_53 : decode cX7_readRow 53 = .ok (.ldc2_w 81, 3) := by decide +kernel
theorem dX7_readRow_56 : decode cX7_readRow 56 = .ok (.lcmp, 1) := by decide +kernel
theorem dX7_readRow_57 : decode cX7_readRow 57 = .ok (.ifCond .ne 7, 3) := by decide +kernel
theorem dX7_readRow_60 : decode cX7_readRow 60 = .ok (.iconst 1, 1) := by decide +kernel
theorem dX7_readRow_61 : decode cX7_readRow 61 = .ok (.goto 4, 3) := by decide +kernel
theorem dX7_readRow_64 : decode cX7_readRow 64 = .ok (.iconst 0, 1) := by decide +kernel
theorem dX7_readRow_65 : decode cX7_readRow 65 = .ok (.istore 10, 2) := by decide +kernel
theorem dX7_readRow_67 : decode cX7_readRow 67 = .ok (.iload 10, 2) := by decide +kernel
theorem dX7_readRow_69 : decode cX7_readRow 69 = .ok (.ifCond .ne 23, 3) := by decide +kernel
theorem dX7_readRow_72 : decode cX7_readRow 72 = .ok (.aload_n 1, 1) := by decide +kernel
theorem dX7_readRow_73 : decode cX7_readRow 73 = .ok (.lload 6, 2) := by decide +kernel
theorem dX7_readRow_75 : decode cX7_readRow 75 = .ok (.lload 8, 2) := by decide +kernel
theorem dX7_readRow_77 : decode cX7_readRow 77 = .ok (.invokevirtual 71, 3) := by decide +kernel
theorem dX7_readRow_80 : decode cX7_readRow 80 = .ok (.ifCond .ne 12, 3) := by decide +kernel
theorem dX7_readRow_83 : decode cX7_readRow 83 = .ok (.aload_n 1, 1) := by decide +kernel
theorem dX7_readRow_84 : decode cX7_readRow 84 = .ok (.iconst 1, 1) := by decide +kernel
theorem dX7_readRow_85 : decode cX7_readRow 85 = .ok (.iload_n 3, 1) := by decide +kernel
theorem dX7_readRow_86 : decode cX7_readRow 86 = .ok (.invokevirtual 59, 3) := by decide +kernel
theorem dX7_readRow_89 : decode cX7_readRow 89 = .ok (.iconst 1, 1) := by decide +kernel
theorem dX7_readRow_90 : decode cX7_readRow 90 = .ok (.istore 10, 2) := by decide +kernel
theorem dX7_readRow_92 : decode cX7_readRow 92 = .ok (.aload_n 0, 1) := by decide +kernel
theorem dX7_readRow_93 : decode cX7_readRow 93 = .ok (.getfield 9, 3) := by decide +kernel
theorem dX7_readRow_96 : decode cX7_readRow 96 = .ok (.iload_n 2, 1) := by decide +kernel
theorem dX7_readRow_97 : decode cX7_readRow 97 = .ok (.iload 10, 2) := by decide +kernel
theorem dX7_readRow_99 : decode cX7_readRow 99 = .ok (.ifCond .eq 7, 3) := by decide +kernel
theorem dX7_readRow_102 : decode cX7_readRow 102 = .ok (.iconst 0, 1) := by decide +kernel
theorem dX7_readRow_103 : decode cX7_readRow 103 = .ok (.goto 6, 3) := by decide +kernel
theorem dX7_readRow_106 : decode cX7_readRow 106 = .ok (.lload 6, 2) := by decide +kernel
theorem dX7_readRow_108 : decode cX7_readRow 108 = .ok (.l2i, 1) := by decide +kernel
theorem dX7_readRow_109 : decode cX7_readRow 109 = .ok (.invokestatic 83, 3) := by decide +kernel
theorem dX7_readRow_112 : decode cX7_readRow 112 = .ok (.aload_n 0, 1) := by decide +kernel
theorem dX7_readRow_113 : decode cX7_readRow 113 = .ok (.getfield 15, 3) := by decide +kernel
theorem dX7_readRow_116 : decode cX7_readRow 116 = .ok (.iload_n 2, 1) := by decide +kernel
theorem dX7_readRow_117 : decode cX7_readRow 117 = .ok (.iload 10, 2) := by decide +kernel
theorem dX7_readRow_119 : decode cX7_readRow 119 = .ok (.ifCond .eq 7, 3) := by decide +kernel
theorem dX7_readRow_122 : decode cX7_readRow 122 = .ok (.iconst 0, 1) := by decide +kernel
theorem dX7_readRow_123 : decode cX7_readRow 123 = .ok (.goto 9, 3) := by decide +kernel
theorem dX7_readRow_126 : decode cX7_readRow 126 = .ok (.lload 6, 2) := by decide +kernel
theorem dX7_readRow_128 : decode cX7_readRow 128 = .ok (.lload 8, 2) := by decide +kernel
theorem dX7_readRow_130 : decode cX7_readRow 130 = .ok (.ladd, 1) := by decide +kernel
theorem dX7_readRow_131 : decode cX7_readRow 131 = .ok (.l2i, 1) := by decide +kernel
theorem dX7_readRow_132 : decode cX7_readRow 132 = .ok (.invokestatic 83, 3) := by decide +kernel
theorem dX7_readRow_135 : decode cX7_readRow 135 = .ok (.return_, 1) := by decide +kernel
theorem dX7_readName_0 : decode cX7_readName 0 = .ok (.aload_n 0, 1) := by decide +kernel
theorem dX7_readName_1 : decode cX7_readName 1 = .ok (.getfield 78, 3) := by decide +kernel
theorem dX7_readName_4 : decode cX7_readName 4 = .ok (.iload_n 2, 1) := by decide +kernel
theorem dX7_readName_5 : decode cX7_readName 5 = .ok (.bipush 64, 2) := by decide +kernel
theorem dX7_readName_7 : decode cX7_readName 7 = .ok (.imul, 1) := by decide +kernel
theorem dX7_readName_8 : decode cX7_readName 8 = .ok (.iadd, 1) := by decide +kernel
theorem dX7_readName_9 : decode cX7_readName 9 = .ok (.istore_n 3, 1) := by decide +kernel
theorem dX7_readName_10 : decode cX7_readName 10 = .ok (.aload_n 1, 1) := by decide +kernel
theorem dX7_readName_11 : decode cX7_readName 11 = .ok (.iload_n 3, 1) := by decide +kernel
theorem dX7_readName_12 : decode cX7_readName 12 = .ok (.iconst 4, 1) := by decide +kernel
theorem dX7_readName_13 : decode cX7_readName 13 = .ok (.invokevirtual 63, 3) := by decide +kernel
theorem dX7_readName_16 : decode cX7_readName 16 = .ok (.lstore 4, 2) := by decide +kernel
theorem dX7_readName_18 : decode cX7_readName 18 = .ok (.aload_n 0, 1) := by decide +kernel
theorem dX7_readName_19 : decode cX7_readName 19 = .ok (.getfield 9, 3) := by decide +kernel
theorem dX7_readName_22 : decode cX7_readName 22 = .ok (.aload_n 0, 1) := by decide +kernel
theorem dX7_readName_23 : decode cX7_readName 23 = .ok (.getfield 75, 3) := by decide +kernel
theorem dX7_readName_26 : decode cX7_readName 26 = .ok (.invokestatic 87, 3) := by decide +kernel
theorem dX7_readName_29 : decode cX7_readName 29 = .ok (.istore 6, 2) := by decide +kernel
theorem dX7_readName_31 : decode cX7_readName 31 = .ok (.aload_n 1, 1) := by decide +kernel
theorem dX7_readName_32 : decode cX7_readName 32 = .ok (.iload 6, 2) := by decide +kernel
theorem dX7_readName_34 : decode cX7_readName 34 = .ok (.aload_n 0, 1) := by decide +kernel
theorem dX7_readName_35 : decode cX7_readName 35 = .ok (.getfield 15, 3) := by decide +kernel
theorem dX7_readName_38 : decode cX7_readName 38 = .ok (.aload_n 0, 1) := by decide +kernel
theorem dX7_readName_39 : decode cX7_readName 39 = .ok (.getfield 75, 3) := by decide +kernel
theorem dX7_readName_42 : decode cX7_readName 42 = .ok (.invokestatic 87, 3) := by decide +kernel
theorem dX7_readName_45 : decode cX7_readName 45 = .ok (.lload 4, 2) := by decide +kernel
theorem dX7_readName_47 : decode cX7_readName 47 = .ok (.iload_n 3, 1) := by decide +kernel
theorem dX7_readName_48 : decode cX7_readName 48 = .ok (.invokevirtual 91, 3) := by decide +kernel
theorem dX7_readName_51 : decode cX7_readName 51 = .ok (.istore 7, 2) := by decide +kernel
theorem dX7_readName_53 : decode cX7_readName 53 = .ok (.aload_n 1, 1) := by decide +kernel
theorem dX7_readName_54 : decode cX7_readName 54 = .ok (.invokevirtual 35, 3) := by decide +kernel
theorem dX7_readName_57 : decode cX7_readName 57 = .ok (.ifCond .ne 4, 3) := by decide +kernel
theorem dX7_readName_60 : decode cX7_readName 60 = .ok (.return_, 1) := by decide +kernel
theorem dX7_readName_61 : decode cX7_readName 61 = .ok (.iconst 0, 1) := by decide +kernel
theorem dX7_readName_62 : decode cX7_readName 62 = .ok (.istore 8, 2) := by decide +kernel
theorem dX7_readName_64 : decode cX7_readName 64 = .ok (.iload 8, 2) := by decide +kernel
theorem dX7_readName_66 : decode cX7_readName 66 = .ok (.bipush 7, 2) := by decide +kernel
theorem dX7_readName_68 : decode cX7_readName 68 = .ok (.if_icmp .ge 52, 3) := by decide +kernel
theorem dX7_readName_71 : decode cX7_readName 71 = .ok (.aload_n 0, 1) := by decide +kernel
theorem dX7_readName_72 : decode cX7_readName 72 = .ok (.getfield 18, 3) := by decide +kernel
theorem dX7_readName_75 : decode cX7_readName 75 = .ok (.iload 8, 2) := by decide +kernel
theorem dX7_readName_77 : decode cX7_readName 77 = .ok (.invokestatic 87, 3) := by decide +kernel
theorem dX7_readName_80 : decode cX7_readName 80 = .ok (.iconst (-1), 1) := by decide +kernel
theorem dX7_readName_81 : decode cX7_readName 81 = .ok (.if_icmp .ne 33, 3) := by decide +kernel
theorem dX7_readName_84 : decode cX7_readName 84 = .ok (.aload_n 1, 1) := by decide +kernel
theorem dX7_readName_85 : decode cX7_readName 85 = .ok (.iload 6, 2) := by decide +kernel
theorem dX7_readName_87 : decode cX7_readName 87 = .ok (.lload 4, 2) := by decide +kernel
theorem dX7_readName_89 : decode cX7_readName 89 = .ok (.l2i, 1) := by decide +kernel
theorem dX7_readName_90 : decode cX7_readName 90 = .ok (.iadd, 1) := by decide +kernel
theorem dX7_readName_91 : decode cX7_readName 91 = .ok (.iload 7, 2) := by decide +kernel
theorem dX7_readName_93 : decode cX7_readName 93 = .ok (.iload 8, 2) := by decide +kernel
theorem dX7_readName_95 : decode cX7_readName 95 = .ok (.invokestatic 95, 3) := by decide +kernel
theorem dX7_readName_98 : decode cX7_readName 98 = .ok (.invokevirtual 99, 3) := by decide +kernel
theorem dX7_readName_101 : decode cX7_readName 101 = .ok (.ifCond .eq 13, 3) := by decide +kernel
theorem dX7_readName_104 : decode cX7_readName 104 = .ok (.aload_n 0, 1) := by decide +kernel
theorem dX7_readName_105 : decode cX7_readName 105 = .ok (.getfield 18, 3) := by decide +kernel
theorem dX7_readName_108 : decode cX7_readName 108 = .ok (.iload 8, 2) := by decide +kernel
theorem dX7_readName_110 : decode cX7_readName 110 = .ok (.iload_n 2, 1) := by decide +kernel
theorem dX7_readName_111 : decode cX7_readName 111 = .ok (.invokestatic 83, 3) := by decide +kernel
theorem dX7_readName_114 : decode cX7_readName 114 = .ok (.iinc 8 1, 3) := by decide +kernel
theorem dX7_readName_117 : decode cX7_readName 117 = .ok (.goto (-53), 3) := by decide +kernel
theorem dX7_readName_120 : decode cX7_readName 120 = .ok (.return_, 1) := by decide +kernel
theorem dX7_nameMeant_0 : decode cX7_nameMeant 0 = .ok (.iload_n 0, 1) := by decide +kernel
theorem dX7_nameMeant_1 : decode cX7_nameMeant 1 = .ok (.tableswitch 57 0 5 #[39, 42, 45, 48, 51, 54], 39) := by decide +kernel
theorem dX7_nameMeant_40 : decode cX7_nameMeant 40 = .ok (.ldc 103, 2) := by decide +kernel
theorem dX7_nameMeant_42 : decode cX7_nameMeant 42 = .ok (.areturn, 1) := by decide +kernel
theorem dX7_nameMeant_43 : decode cX7_nameMeant 43 = .ok (.ldc 105, 2) := by decide +kernel
theorem dX7_nameMeant_45 : decode cX7_nameMeant 45 = .ok (.areturn, 1) := by decide +kernel
theorem dX7_nameMeant_46 : decode cX7_nameMeant 46 = .ok (.ldc 107, 2) := by decide +kernel
theorem dX7_nameMeant_48 : decode cX7_nameMeant 48 = .ok (.areturn, 1) := by decide +kernel
theorem dX7_nameMeant_49 : decode cX7_nameMeant 49 = .ok (.ldc 109, 2) := by decide +kernel
theorem dX7_nameMeant_51 : decode cX7_nameMeant 51 = .ok (.areturn, 1) := by decide +kernel
theorem dX7_nameMeant_52 : decode cX7_nameMeant 52 = .ok (.ldc 111, 2) := by decide +kernel
theorem dX7_nameMeant_54 : decode cX7_nameMeant 54 = .ok (.areturn, 1) := by decide +kernel
theorem dX7_nameMeant_55 : decode cX7_nameMeant 55 = .ok (.ldc 113, 2) := by decide +kernel
theorem dX7_nameMeant_57 : decode cX7_nameMeant 57 = .ok (.areturn, 1) := by decide +kernel
theorem dX7_nameMeant_58 : decode cX7_nameMeant 58 = .ok (.ldc 115, 2) := by decide +kernel
theorem dX7_nameMeant_60 : decode cX7_nameMeant 60 = .ok (.areturn, 1) := by decide +kernel
theorem dX7_total_0 : decode cX7_total 0 = .ok (.aload_n 0, 1) := by decide +kernel
theorem dX7_total_1 : decode cX7_total 1 = .ok (.getfield 21, 3) := by decide +kernel
theorem dX7_total_4 : decode cX7_total 4 = .ok (.ireturn, 1) := by decide +kernel
theorem dX7_beginOf_0 : decode cX7_beginOf 0 = .ok (.aload_n 0, 1) := by decide +kernel
theorem dX7_beginOf_1 : decode cX7_beginOf 1 = .ok (.getfield 18, 3) := by decide +kernel
theorem dX7_beginOf_4 : decode cX7_beginOf 4 = .ok (.iload_n 1, 1) := by decide +kernel
theorem dX7_beginOf_5 : decode cX7_beginOf 5 = .ok (.invokestatic 87, 3) := by decide +kernel
theorem dX7_beginOf_8 : decode cX7_beginOf 8 = .ok (.istore_n 2, 1) := by decide +kernel
theorem dX7_beginOf_9 : decode cX7_beginOf 9 = .ok (.iload_n 2, 1) := by decide +kernel
theorem dX7_beginOf_10 : decode cX7_beginOf 10 = .ok (.iconst (-1), 1) := by decide +kernel
theorem dX7_beginOf_11 : decode cX7_beginOf 11 = .ok (.if_icmp .ne 7, 3) := by decide +kernel
theorem dX7_beginOf_14 : decode cX7_beginOf 14 = .ok (.iconst 0, 1) := by decide +kernel
theorem dX7_beginOf_15 : decode cX7_beginOf 15 = .ok (.goto 11, 3) := by decide +kernel
theorem dX7_beginOf_18 : decode cX7_beginOf 18 = .ok (.aload_n 0, 1) := by decide +kernel
theorem dX7_beginOf_19 : decode cX7_beginOf 19 = .ok (.getfield 9, 3) := by decide +kernel
theorem dX7_beginOf_22 : decode cX7_beginOf 22 = .ok (.iload_n 2, 1) := by decide +kernel
theorem dX7_beginOf_23 : decode cX7_beginOf 23 = .ok (.invokestatic 87, 3) := by decide +kernel
theorem dX7_beginOf_26 : decode cX7_beginOf 26 = .ok (.ireturn, 1) := by decide +kernel
theorem dX7_stopOf_0 : decode cX7_stopOf 0 = .ok (.aload_n 0, 1) := by decide +kernel
theorem dX7_stopOf_1 : decode cX7_stopOf 1 = .ok (.getfield 18, 3) := by decide +kernel
theorem dX7_stopOf_4 : decode cX7_stopOf 4 = .ok (.iload_n 1, 1) := by decide +kernel
theorem dX7_stopOf_5 : decode cX7_stopOf 5 = .ok (.invokestatic 87, 3) := by decide +kernel
theorem dX7_stopOf_8 : decode cX7_stopOf 8 = .ok (.istore_n 2, 1) := by decide +kernel
theorem dX7_stopOf_9 : decode cX7_stopOf 9 = .ok (.iload_n 2, 1) := by decide +kernel
theorem dX7_stopOf_10 : decode cX7_stopOf 10 = .ok (.iconst (-1), 1) := by decide +kernel
theorem dX7_stopOf_11 : decode cX7_stopOf 11 = .ok (.if_icmp .ne 7, 3) := by decide +kernel
theorem dX7_stopOf_14 : decode cX7_stopOf 14 = .ok (.iconst 0, 1) := by decide +kernel
theorem dX7_stopOf_15 : decode cX7_stopOf 15 = .ok (.goto 11, 3) := by decide +kernel
theorem dX7_stopOf_18 : decode cX7_stopOf 18 = .ok (.aload_n 0, 1) := by decide +kernel
theorem dX7_stopOf_19 : decode cX7_stopOf 19 = .ok (.getfield 15, 3) := by decide +kernel
theorem dX7_stopOf_22 : decode cX7_stopOf 22 = .ok (.iload_n 2, 1) := by decide +kernel
theorem dX7_stopOf_23 : decode cX7_stopOf 23 = .ok (.invokestatic 87, 3) := by decide +kernel
theorem dX7_stopOf_26 : decode cX7_stopOf 26 = .ok (.ireturn, 1) := by decide +kernel
theorem dX7_isIn_0 : decode cX7_isIn 0 = .ok (.lload_n 2, 1) := by decide +kernel
theorem dX7_isIn_1 : decode cX7_isIn 1 = .ok (.lconst 0, 1) := by decide +kernel
theorem dX7_isIn_2 : decode cX7_isIn 2 = .ok (.lcmp, 1) := by decide +kernel
theorem dX7_isIn_3 : decode cX7_isIn 3 = .ok (.ifCond .lt 24, 3) := by decide +kernel
theorem dX7_isIn_6 : decode cX7_isIn 6 = .ok (.lload_n 2, 1) := by decide +kernel
theorem dX7_isIn_7 : decode cX7_isIn 7 = .ok (.aload_n 0, 1) := by decide +kernel
theorem dX7_isIn_8 : decode cX7_isIn 8 = .ok (.iload_n 1, 1) := by decide +kernel
theorem dX7_isIn_9 : decode cX7_isIn 9 = .ok (.invokevirtual 117, 3) := by decide +kernel
theorem dX7_isIn_12 : decode cX7_isIn 12 = .ok (.aload_n 0, 1) := by decide +kernel
theorem dX7_isIn_13 : decode cX7_isIn 13 = .ok (.iload_n 1, 1) := by decide +kernel
theorem dX7_isIn_14 : decode cX7_isIn 14 = .ok (.invokevirtual 120, 3) := by decide +kernel
theorem dX7_isIn_17 : decode cX7_isIn 17 = .ok (.isub, 1) := by decide +kernel
theorem dX7_isIn_18 : decode cX7_isIn 18 = .ok (.i2l, 1) := by decide +kernel
theorem dX7_isIn_19 : decode cX7_isIn 19 = .ok (.lcmp, 1) := by decide +kernel
theorem dX7_isIn_20 : decode cX7_isIn 20 = .ok (.ifCond .ge 7, 3) := by decide +kernel
theorem dX7_isIn_23 : decode cX7_isIn 23 = .ok (.iconst 1, 1) := by decide +kernel
theorem dX7_isIn_24 : decode cX7_isIn 24 = .ok (.goto 4, 3) := by decide +kernel
theorem dX7_isIn_27 : decode cX7_isIn 27 = .ok (.iconst 0, 1) := by decide +kernel
theorem dX7_isIn_28 : decode cX7_isIn 28 = .ok (.ireturn, 1) := by decide +kernel
theorem dX8_init_0 : decode cX8_init 0 = .ok (.aload_n 0, 1) := by decide +kernel
theorem dX8_init_1 : decode cX8_init 1 = .ok (.invokespecial 3, 3) := by decide +kernel
theorem dX8_init_4 : decode cX8_init 4 = .ok (.aload_n 0, 1) := by decide +kernel
theorem dX8_init_5 : decode cX8_init 5 = .ok (.bipush 100, 2) := by decide +kernel
theorem dX8_init_7 : decode cX8_init 7 = .ok (.newarray .long, 2) := by decide +kernel
theorem dX8_init_9 : decode cX8_init 9 = .ok (.putfield 9, 3) := by decide +kernel
theorem dX8_init_12 : decode cX8_init 12 = .ok (.aload_n 0, 1) := by decide +kernel
theorem dX8_init_13 : decode cX8_init 13 = .ok (.bipush 100, 2) := by decide +kernel
theorem dX8_init_15 : decode cX8_init 15 = .ok (.newarray .long, 2) := by decide +kernel
theorem dX8_init_17 : decode cX8_init 17 = .ok (.putfield 15, 3) := by decide +kernel
theorem dX8_init_20 : decode cX8_init 20 = .ok (.aload_n 0, 1) := by decide +kernel
theorem dX8_init_21 : decode cX8_init 21 = .ok (.bipush 100, 2) := by decide +kernel
theorem dX8_init_23 : decode cX8_init 23 = .ok (.newarray .int, 2) := by decide +kernel
theorem dX8_init_25 : decode cX8_init 25 = .ok (.putfield 18, 3) := by decide +kernel
theorem dX8_init_28 : decode cX8_init 28 = .ok (.aload_n 0, 1) := by decide +kernel
theorem dX8_init_29 : decode cX8_init 29 = .ok (.bipush 100, 2) := by decide +kernel
theorem dX8_init_31 : decode cX8_init 31 = .ok (.newarray .int, 2) := by decide +kernel
theorem dX8_init_33 : decode cX8_init 33 = .ok (.putfield 22, 3) := by decide +kernel
theorem dX8_init_36 : decode cX8_init 36 = .ok (.return_, 1) := by decide +kernel
theorem dX8_read_0 : decode cX8_read 0 = .ok (.aload_n 0, 1) := by decide +kernel
theorem dX8_read_1 : decode cX8_read 1 = .ok (.iconst 0, 1) := by decide +kernel
theorem dX8_read_2 : decode cX8_read 2 = .ok (.putfield 25, 3) := by decide +kernel
theorem dX8_read_5 : decode cX8_read 5 = .ok (.aload_n 2, 1) := by decide +kernel
theorem dX8_read_6 : decode cX8_read 6 = .ok (.iconst 0, 1) := by decide +kernel
theorem dX8_read_7 : decode cX8_read 7 = .ok (.invokevirtual 29, 3) := by decide +kernel
theorem dX8_read_10 : decode cX8_read 10 = .ok (.istore_n 3, 1) := by decide +kernel
theorem dX8_read_11 : decode cX8_read 11 = .ok (.aload_n 2, 1) := by decide +kernel
theorem dX8_read_12 : decode cX8_read 12 = .ok (.iconst 0, 1) := by decide +kernel
theorem dX8_read_13 : decode cX8_read 13 = .ok (.invokevirtual 35, 3) := by decide +kernel
theorem dX8_read_16 : decode cX8_read 16 = .ok (.istore 4, 2) := by decide +kernel
theorem dX8_read_18 : decode cX8_read 18 = .ok (.iload 4, 2) := by decide +kernel
theorem dX8_read_20 : decode cX8_read 20 = .ok (.iload_n 3, 1) := by decide +kernel
theorem dX8_read_21 : decode cX8_read 21 = .ok (.isub, 1) := by decide +kernel
theorem dX8_read_22 : decode cX8_read 22 = .ok (.bipush 24, 2) := by decide +kernel
theorem dX8_read_24 : decode cX8_read 24 = .ok (.idiv, 1) := by decide +kernel
theorem dX8_read_25 : decode cX8_read 25 = .ok (.istore 5, 2) := by decide +kernel
theorem dX8_read_27 : decode cX8_read 27 = .ok (.iconst 0, 1) := by decide +kernel
theorem dX8_read_28 : decode cX8_read 28 = .ok (.istore 6, 2) := by decide +kernel
theorem dX8_read_30 : decode cX8_read 30 = .ok (.iload 6, 2) := by decide +kernel
theorem dX8_read_32 : decode cX8_read 32 = .ok (.iload 5, 2) := by decide +kernel
theorem dX8_read_34 : decode cX8_read 34 = .ok (.if_icmp .ge 29, 3) := by decide +kernel
theorem dX8_read_37 : decode cX8_read 37 = .ok (.aload_n 1, 1) := by decide +kernel
theorem dX8_read_38 : decode cX8_read 38 = .ok (.invokevirtual 38, 3) := by decide +kernel
theorem dX8_read_41 : decode cX8_read 41 = .ok (.ifCond .eq 22, 3) := by decide +kernel
theorem dX8_read_44 : decode cX8_read 44 = .ok (.aload_n 0, 1) := by decide +kernel
theorem dX8_read_45 : decode cX8_read 45 = .ok (.aload_n 1, 1) := by decide +kernel
theorem dX8_read_46 : decode cX8_read 46 = .ok (.aload_n 2, 1) := by decide +kernel
theorem dX8_read_47 : decode cX8_read 47 = .ok (.iload_n 3, 1) := by decide +kernel
theorem dX8_read_48 : decode cX8_read 48 = .ok (.iload 6, 2) := by decide +kernel
theorem dX8_read_50 : decode cX8_read 50 = .ok (.bipush 24, 2) := by decide +kernel
theorem dX8_read_52 : decode cX8_read 52 = .ok (.imul, 1) := by decide +kernel
theorem dX8_read_53 : decode cX8_read 53 = .ok (.iadd, 1) := by decide +kernel
theorem dX8_read_54 : decode cX8_read 54 = .ok (.invokevirtual 44, 3) := by decide +kernel
theorem dX8_read_57 : decode cX8_read 57 = .ok (.iinc 6 1, 3) := by decide +kernel
theorem dX8_read_60 : decode cX8_read 60 = .ok (.goto (-30), 3) := by decide +kernel
theorem dX8_read_63 : decode cX8_read 63 = .ok (.iload_n 3, 1) := by decide +kernel
theorem dX8_read_64 : decode cX8_read 64 = .ok (.iload 5, 2) := by decide +kernel
theorem dX8_read_66 : decode cX8_read 66 = .ok (.bipush 24, 2) := by decide +kernel
theorem dX8_read_68 : decode cX8_read 68 = .ok (.imul, 1) := by decide +kernel
theorem dX8_read_69 : decode cX8_read 69 = .ok (.iadd, 1) := by decide +kernel
theorem dX8_read_70 : decode cX8_read 70 = .ok (.istore 6, 2) := by decide +kernel
theorem dX8_read_72 : decode cX8_read 72 = .ok (.iload 6, 2) := by decide +kernel
theorem dX8_read_74 : decode cX8_read 74 = .ok (.iload 4, 2) := by decide +kernel
theorem dX8_read_76 : decode cX8_read 76 = .ok (.if_icmp .ge 10, 3) := by decide +kernel
theorem dX8_read_79 : decode cX8_read 79 = .ok (.aload_n 1, 1) := by decide +kernel
theorem dX8_read_80 : decode cX8_read 80 = .ok (.iconst 1, 1) := by decide +kernel
theorem dX8_read_81 : decode cX8_read 81 = .ok (.iload 6, 2) := by decide +kernel
theorem dX8_read_83 : decode cX8_read 83 = .ok (.invokevirtual 48, 3) := by decide +kernel
theorem dX8_read_86 : decode cX8_read 86 = .ok (.return_, 1) := by decide +kernel
theorem dX8_readRow_0 : decode cX8_readRow 0 = .ok (.aload_n 1, 1) := by decide +kernel
theorem dX8_readRow_1 : decode cX8_readRow 1 = .ok (.iload_n 3, 1) := by decide +kernel
theorem dX8_readRow_2 : decode cX8_readRow 2 = .ok (.bipush 8, 2) := by decide +kernel
theorem dX8_readRow_4 : decode cX8_readRow 4 = .ok (.iadd, 1) := by decide +kernel
theorem dX8_readRow_5 : decode cX8_readRow 5 = .ok (.bipush 8, 2) := by decide +kernel
theorem dX8_readRow_7 : decode cX8_readRow 7 = .ok (.invokevirtual 52, 3) := by decide +kernel
theorem dX8_readRow_10 : decode cX8_readRow 10 = .ok (.lstore 4, 2) := by decide +kernel
theorem dX8_readRow_12 : decode cX8_readRow 12 = .ok (.aload_n 1, 1) := by decide +kernel
theorem dX8_readRow_13 : decode cX8_readRow 13 = .ok (.iload_n 3, 1) := by decide +kernel
theorem dX8_readRow_14 : decode cX8_readRow 14 = .ok (.bipush 16, 2) := by decide +kernel
theorem dX8_readRow_16 : decode cX8_readRow 16 = .ok (.iadd, 1) := by decide +kernel
theorem dX8_readRow_17 : decode cX8_readRow 17 = .ok (.bipush 8, 2) := by decide +kernel
theorem dX8_readRow_19 : decode cX8_readRow 19 = .ok (.invokevirtual 52, 3) := by decide +kernel
theorem dX8_readRow_22 : decode cX8_readRow 22 = .ok (.lstore 6, 2) := by decide +kernel
theorem dX8_readRow_24 : decode cX8_readRow 24 = .ok (.aload_n 1, 1) := by decide +kernel
theorem dX8_readRow_25 : decode cX8_readRow 25 = .ok (.iload_n 3, 1) := by decide +kernel
theorem dX8_readRow_26 : decode cX8_readRow 26 = .ok (.iconst 4, 1) := by decide +kernel
theorem dX8_readRow_27 : decode cX8_readRow 27 = .ok (.iadd, 1) := by decide +kernel
theorem dX8_readRow_28 : decode cX8_readRow 28 = .ok (.invokevirtual 56, 3) := by decide +kernel
theorem dX8_readRow_31 : decode cX8_readRow 31 = .ok (.bipush 16, 2) := by decide +kernel
theorem dX8_readRow_33 : decode cX8_readRow 33 = .ok (.irem, 1) := by decide +kernel
theorem dX8_readRow_34 : decode cX8_readRow 34 = .ok (.iconst 2, 1) := by decide +kernel
theorem dX8_readRow_35 : decode cX8_readRow 35 = .ok (.if_icmp .ne 7, 3) := by decide +kernel
theorem dX8_readRow_38 : decode cX8_readRow 38 = .ok (.iconst 1, 1) := by decide +kernel
theorem dX8_readRow_39 : decode cX8_readRow 39 = .ok (.goto 4, 3) := by decide +kernel
theorem dX8_readRow_42 : decode cX8_readRow 42 = .ok (.iconst 0, 1) := by decide +kernel
theorem dX8_readRow_43 : decode cX8_readRow 43 = .ok (.istore 8, 2) := by decide +kernel
theorem dX8_readRow_45 : decode cX8_readRow 45 = .ok (.iload 8, 2) := by decide +kernel
theorem dX8_readRow_47 : decode cX8_readRow 47 = .ok (.ifCond .eq 24, 3) := by decide +kernel
theorem dX8_readRow_50 : decode cX8_readRow 50 = .ok (.aload_n 1, 1) := by decide +kernel
theorem dX8_readRow_51 : decode cX8_readRow 51 = .ok (.iload_n 3, 1) := by decide +kernel
theorem dX8_readRow_52 : decode cX8_readRow 52 = .ok (.bipush 6, 2) := by decide +kernel
theorem dX8_readRow_54 : decode cX8_readRow 54 = .ok (.iadd, 1) := by decide +kernel
theorem dX8_readRow_55 : decode cX8_readRow 55 = .ok (.iconst 2, 1) := by decide +kernel
theorem dX8_readRow_56 : decode cX8_readRow 56 = .ok (.invokevirtual 52, 3) := by decide +kernel
theorem dX8_readRow_59 : decode cX8_readRow 59 = .ok (.lconst 0, 1) := by decide +kernel
theorem dX8_readRow_60 : decode cX8_readRow 60 = .ok (.lcmp, 1) := by decide +kernel
theorem dX8_readRow_61 : decode cX8_readRow 61 = .ok (.ifCond .eq 10, 3) := by decide +kernel
theorem dX8_readRow_64 : decode cX8_readRow 64 = .ok (.lload 6, 2) := by decide +kernel
theorem dX8_readRow_66 : decode cX8_readRow 66 = .ok (.lconst 0, 1) := by decide +kernel
theorem dX8_readRow_67 : decode cX8_readRow 67 = .ok (.lcmp, 1) := by decide +kernel
theorem dX8_readRow_68 : decode cX8_readRow 68 = .ok (.ifCond .ne 4, 3) := by decide +kernel
theorem dX8_readRow_71 : decode cX8_readRow 71 = .ok (.return_, 1) := by decide +kernel
theorem dX8_readRow_72 : decode cX8_readRow 72 = .ok (.lload 4, 2) := by decide +kernel
theorem dX8_readRow_74 : decode cX8_readRow 74 = .ok (.lconst 0, 1) := by decide +kernel
theorem dX8_readRow_75 : decode cX8_readRow 75 = .ok (.lcmp, 1) := by decide +kernel
theorem dX8_readRow_76 : decode cX8_readRow 76 = .ok (.ifCond .lt 20, 3) := by decide +kernel
theorem dX8_readRow_79 : decode cX8_readRow 79 = .ok (.lload 6, 2) := by decide +kernel
theorem dX8_readRow_81 : decode cX8_readRow 81 = .ok (.lconst 0, 1) := by decide +kernel
theorem dX8_readRow_82 : decode cX8_readRow 82 = .ok (.lcmp, 1) := by decide +kernel
theorem dX8_readRow_83 : decode cX8_readRow 83 = .ok (.ifCond .lt 13, 3) := by decide +kernel
theorem dX8_readRow_86 : decode cX8_readRow 86 = .ok (.lload 4, 2) := by decide +kernel
theorem dX8_readRow_88 : decode cX8_readRow 88 = .ok (.lload 6, 2) := by decide +kernel
theorem dX8_readRow_90 : decode cX8_readRow 90 = .ok (.ladd, 1) := by decide +kernel
theorem dX8_readRow_91 : decode cX8_readRow 91 = .ok (.lconst 0, 1) := by decide +kernel
theorem dX8_readRow_92 : decode cX8_readRow 92 = .ok (.lcmp, 1) := by decide +kernel
theorem dX8_readRow_93 : decode cX8_readRow 93 = .ok (.ifCond .ge 9, 3) := by decide +kernel
theorem dX8_readRow_96 : decode cX8_readRow 96 = .ok (.aload_n 1, 1) := by decide +kernel
theorem dX8_readRow_97 : decode cX8_readRow 97 = .ok (.iconst 2, 1) := by decide +kernel
theorem dX8_readRow_98 : decode cX8_readRow 98 = .ok (.iload_n 3, 1) := by decide +kernel
theorem dX8_readRow_99 : decode cX8_readRow 99 = .ok (.invokevirtual 48, 3) := by decide +kernel
theorem dX8_readRow_102 : decode cX8_readRow 102 = .ok (.aload_n 1, 1) := by decide +kernel
theorem dX8_readRow_103 : decode cX8_readRow 103 = .ok (.iload_n 3, 1) := by decide +kernel
theorem dX8_readRow_104 : decode cX8_readRow 104 = .ok (.iconst 4, 1) := by decide +kernel
theorem dX8_readRow_105 : decode cX8_readRow 105 = .ok (.invokevirtual 52, 3) := by decide +kernel
theorem dX8_readRow_108 : decode cX8_readRow 108 = .ok (.lstore 9, 2) := by decide +kernel
theorem dX8_readRow_110 : decode cX8_readRow 110 = .ok (.aload_n 2, 1) := by decide +kernel
theorem dX8_readRow_111 : decode cX8_readRow 111 = .ok (.iconst 1, 1) := by decide +kernel
theorem dX8_readRow_112 : decode cX8_readRow 112 = .ok (.invokevirtual 29, 3) := by decide +kernel
theorem dX8_readRow_115 : decode cX8_readRow 115 = .ok (.istore 11, 2) := by decide +kernel
theorem dX8_readRow_117 : decode cX8_readRow 117 = .ok (.aload_n 1, 1) := by decide +kernel
theorem dX8_readRow_118 : decode cX8_readRow 118 = .ok (.iload 11, 2) := by decide +kernel
theorem dX8_readRow_120 : decode cX8_readRow 120 = .ok (.aload_n 2, 1) := by decide +kernel
theorem dX8_readRow_121 : decode cX8_readRow 121 = .ok (.iconst 1, 1) := by decide +kernel
theorem dX8_readRow_122 : decode cX8_readRow 122 = .ok (.invokevirtual 35, 3) := by decide +kernel
theorem dX8_readRow_125 : decode cX8_readRow 125 = .ok (.lload 9, 2) := by decide +kernel
theorem dX8_readRow_127 : decode cX8_readRow 127 = .ok (.iload_n 3, 1) := by decide +kernel
theorem dX8_readRow_128 : decode cX8_readRow 128 = .ok (.invokevirtual 59, 3) := by decide +kernel
theorem dX8_readRow_131 : decode cX8_readRow 131 = .ok (.istore 12, 2) := by decide +kernel
theorem dX8_readRow_133 : decode cX8_readRow 133 = .ok (.aload_n 0, 1) := by decide +kernel
theorem dX8_readRow_134 : decode cX8_readRow 134 = .ok (.getfield 25, 3) := by decide +kernel
theorem dX8_readRow_137 : decode cX8_readRow 137 = .ok (.bipush 100, 2) := by decide +kernel
theorem dX8_readRow_139 : decode cX8_readRow 139 = .ok (.if_icmp .lt 9, 3) := by decide +kernel
theorem dX8_readRow_142 : decode cX8_readRow 142 = .ok (.aload_n 1, 1) := by decide +kernel
theorem dX8_readRow_143 : decode cX8_readRow 143 = .ok (.iconst 4, 1) := by decide +kernel
theorem dX8_readRow_144 : decode cX8_readRow 144 = .ok (.iload_n 3, 1) := by decide +kernel
theorem dX8_readRow_145 : decode cX8_readRow 145 = .ok (.invokevirtual 48, 3) := by decide +kernel
theorem dX8_readRow_148 : decode cX8_readRow 148 = .ok (.aload_n 1, 1) := by decide +kernel
theorem dX8_readRow_149 : decode cX8_readRow 149 = .ok (.invokevirtual 38, 3) := by decide +kernel
theorem dX8_readRow_152 : decode cX8_readRow 152 = .ok (.ifCond .ne 4, 3) := by decide +kernel
theorem dX8_readRow_155 : decode cX8_readRow 155 = .ok (.return_, 1) := by decide +kernel
theorem dX8_readRow_156 : decode cX8_readRow 156 = .ok (.aload_n 0, 1) := by decide +kernel
theorem dX8_readRow_157 : decode cX8_readRow 157 = .ok (.getfield 9, 3) := by decide +kernel
theorem dX8_readRow_160 : decode cX8_readRow 160 = .ok (.aload_n 0, 1) := by decide +kernel
theorem dX8_readRow_161 : decode cX8_readRow 161 = .ok (.getfield 25, 3) := by decide +kernel
theorem dX8_readRow_164 : decode cX8_readRow 164 = .ok (.lload 4, 2) := by decide +kernel
theorem dX8_readRow_166 : decode cX8_readRow 166 = .ok (.invokestatic 63, 3) := by decide +kernel
theorem dX8_readRow_169 : decode cX8_readRow 169 = .ok (.aload_n 0, 1) := by decide +kernel
theorem dX8_readRow_170 : decode cX8_readRow 170 = .ok (.getfield 15, 3) := by decide +kernel
theorem dX8_readRow_173 : decode cX8_readRow 173 = .ok (.aload_n 0, 1) := by decide +kernel
theorem dX8_readRow_174 : decode cX8_readRow 174 = .ok (.getfield 25, 3) := by decide +kernel
theorem dX8_readRow_177 : decode cX8_readRow 177 = .ok (.lload 6, 2) := by decide +kernel
theorem dX8_readRow_179 : decode cX8_readRow 179 = .ok (.invokestatic 63, 3) := by decide +kernel
theorem dX8_readRow_182 : decode cX8_readRow 182 = .ok (.aload_n 0, 1) := by decide +kernel
theorem dX8_readRow_183 : decode cX8_readRow 183 = .ok (.getfield 18, 3) := by decide +kernel
theorem dX8_readRow_186 : decode cX8_readRow 186 = .ok (.aload_n 0, 1) := by decide +kernel
theorem dX8_readRow_187 : decode cX8_readRow 187 = .ok (.getfield 25, 3) := by decide +kernel
theorem dX8_readRow_190 : decode cX8_readRow 190 = .ok (.iload 11, 2) := by decide +kernel
theorem dX8_readRow_192 : decode cX8_readRow 192 = .ok (.lload 9, 2) := by decide +kernel
theorem dX8_readRow_194 : decode cX8_readRow 194 = .ok (.l2i, 1) := by decide +kernel
theorem dX8_readRow_195 : decode cX8_readRow 195 = .ok (.iadd, 1) := by decide +kernel
theorem dX8_readRow_196 : decode cX8_readRow 196 = .ok (.invokestatic 67, 3) := by decide +kernel
theorem dX8_readRow_199 : decode cX8_readRow 199 = .ok (.aload_n 0, 1) := by decide +kernel
theorem dX8_readRow_200 : decode cX8_readRow 200 = .ok (.getfield 22, 3) := by decide +kernel
theorem dX8_readRow_203 : decode cX8_readRow 203 = .ok (.aload_n 0, 1) := by decide +kernel
theorem dX8_readRow_204 : decode cX8_readRow 204 = .ok (.getfield 25, 3) := by decide +kernel
theorem dX8_readRow_207 : decode cX8_readRow 207 = .ok (.iload 12, 2) := by decide +kernel
theorem dX8_readRow_209 : decode cX8_readRow 209 = .ok (.invokestatic 67, 3) := by decide +kernel
theorem dX8_readRow_212 : decode cX8_readRow 212 = .ok (.aload_n 0, 1) := by decide +kernel
theorem dX8_readRow_213 : decode cX8_readRow 213 = .ok (.dup, 1) := by decide +kernel
theorem dX8_readRow_214 : decode cX8_readRow 214 = .ok (.getfield 25, 3) := by decide +kernel
theorem dX8_readRow_217 : decode cX8_readRow 217 = .ok (.iconst 1, 1) := by decide +kernel
theorem dX8_readRow_218 : decode cX8_readRow 218 = .ok (.iadd, 1) := by decide +kernel
theorem dX8_readRow_219 : decode cX8_readRow 219 = .ok (.putfield 25, 3) := by decide +kernel
theorem dX8_readRow_222 : decode cX8_readRow 222 = .ok (.return_, 1) := by decide +kernel
theorem dX8_total_0 : decode cX8_total 0 = .ok (.aload_n 0, 1) := by decide +kernel
theorem dX8_total_1 : decode cX8_total 1 = .ok (.getfield 25, 3) := by decide +kernel
theorem dX8_total_4 : decode cX8_total 4 = .ok (.ireturn, 1) := by decide +kernel
theorem dX8_namePlaceOf_0 : decode cX8_namePlaceOf 0 = .ok (.iload_n 1, 1) := by decide +kernel
theorem dX8_namePlaceOf_1 : decode cX8_namePlaceOf 1 = .ok (.ifCond .lt 22, 3) := by decide +kernel
theorem dX8_namePlaceOf_4 : decode cX8_namePlaceOf 4 = .ok (.iload_n 1, 1) := by decide +kernel
theorem dX8_namePlaceOf_5 : decode cX8_namePlaceOf 5 = .ok (.aload_n 0, 1) := by decide +kernel
theorem dX8_namePlaceOf_6 : decode cX8_namePlaceOf 6 = .ok (.getfield 25, 3) := by decide +kernel
theorem dX8_namePlaceOf_9 : decode cX8_namePlaceOf 9 = .ok (.if_icmp .ge 14, 3) := by decide +kernel
theorem dX8_namePlaceOf_12 : decode cX8_namePlaceOf 12 = .ok (.aload_n 0, 1) := by decide +kernel
theorem dX8_namePlaceOf_13 : decode cX8_namePlaceOf 13 = .ok (.getfield 18, 3) := by decide +kernel
theorem dX8_namePlaceOf_16 : decode cX8_namePlaceOf 16 = .ok (.iload_n 1, 1) := by decide +kernel
theorem dX8_namePlaceOf_17 : decode cX8_namePlaceOf 17 = .ok (.invokestatic 70, 3) := by decide +kernel
theorem dX8_namePlaceOf_20 : decode cX8_namePlaceOf 20 = .ok (.goto 4, 3) := by decide +kernel
theorem dX8_namePlaceOf_23 : decode cX8_namePlaceOf 23 = .ok (.iconst (-1), 1) := by decide +kernel
theorem dX8_namePlaceOf_24 : decode cX8_namePlaceOf 24 = .ok (.ireturn, 1) := by decide +kernel
theorem dX8_nameLengthOf_0 : decode cX8_nameLengthOf 0 = .ok (.iload_n 1, 1) := by decide +kernel
theorem dX8_nameLengthOf_1 : decode cX8_nameLengthOf 1 = .ok (.ifCond .lt 22, 3) := by decide +kernel
theorem dX8_nameLengthOf_4 : decode cX8_nameLengthOf 4 = .ok (.iload_n 1, 1) := by decide +kernel
theorem dX8_nameLengthOf_5 : decode cX8_nameLengthOf 5 = .ok (.aload_n 0, 1) := by decide +kernel
theorem dX8_nameLengthOf_6 : decode cX8_nameLengthOf 6 = .ok (.getfield 25, 3) := by decide +kernel
theorem dX8_nameLengthOf_9 : decode cX8_nameLengthOf 9 = .ok (.if_icmp .ge 14, 3) := by decide +kernel
theorem dX8_nameLengthOf_12 : decode cX8_nameLengthOf 12 = .ok (.aload_n 0, 1) := by decide +kernel
theorem dX8_nameLengthOf_13 : decode cX8_nameLengthOf 13 = .ok (.getfield 22, 3) := by decide +kernel
theorem dX8_nameLengthOf_16 : decode cX8_nameLengthOf 16 = .ok (.iload_n 1, 1) := by decide +kernel
theorem dX8_nameLengthOf_17 : decode cX8_nameLengthOf 17 = .ok (.invokestatic 70, 3) := by decide +kernel
theorem dX8_nameLengthOf_20 : decode cX8_nameLengthOf 20 = .ok (.goto 4, 3) := by decide +kernel
theorem dX8_nameLengthOf_23 : decode cX8_nameLengthOf 23 = .ok (.iconst (-1), 1) := by decide +kernel
theorem dX8_nameLengthOf_24 : decode cX8_nameLengthOf 24 = .ok (.ireturn, 1) := by decide +kernel
theorem dX8_valueOf_0 : decode cX8_valueOf 0 = .ok (.aload_n 0, 1) := by decide +kernel
theorem dX8_valueOf_1 : decode cX8_valueOf 1 = .ok (.getfield 9, 3) := by decide +kernel
theorem dX8_valueOf_4 : decode cX8_valueOf 4 = .ok (.iload_n 1, 1) := by decide +kernel
theorem dX8_valueOf_5 : decode cX8_valueOf 5 = .ok (.invokestatic 74, 3) := by decide +kernel
theorem dX8_valueOf_8 : decode cX8_valueOf 8 = .ok (.lreturn, 1) := by decide +kernel
theorem dX8_holding_0 : decode cX8_holding 0 = .ok (.iconst (-1), 1) := by decide +kernel
theorem dX8_holding_1 : decode cX8_holding 1 = .ok (.istore_n 3, 1) := by decide +kernel
theorem dX8_holding_2 : decode cX8_holding 2 = .ok (.iconst 0, 1) := by decide +kernel
theorem dX8_holding_3 : decode cX8_holding 3 = .ok (.istore 4, 2) := by decide +kernel
theorem dX8_holding_5 : decode cX8_holding 5 = .ok (.iload 4, 2) := by decide +kernel
theorem dX8_holding_7 : decode cX8_holding 7 = .ok (.bipush 100, 2) := by decide +kernel
theorem dX8_holding_9 : decode cX8_holding 9 = .ok (.if_icmp .ge 87, 3) := by decide +kernel
theorem dX8_holding_12 : decode cX8_holding 12 = .ok (.iload 4, 2) := by decide +kernel
theorem dX8_holding_14 : decode cX8_holding 14 = .ok (.aload_n 0, 1) := by decide +kernel
theorem dX8_holding_15 : decode cX8_holding 15 = .ok (.getfield 25, 3) := by decide +kernel
theorem dX8_holding_18 : decode cX8_holding 18 = .ok (.if_icmp .ge 78, 3) := by decide +kernel
theorem dX8_holding_21 : decode cX8_holding 21 = .ok (.aload_n 0, 1) := by decide +kernel
theorem dX8_holding_22 : decode cX8_holding 22 = .ok (.getfield 9, 3) := by decide +kernel
theorem dX8_holding_25 : decode cX8_holding 25 = .ok (.iload 4, 2) := by decide +kernel
theorem dX8_holding_27 : decode cX8_holding 27 = .ok (.invokestatic 74, 3) := by decide +kernel
theorem dX8_holding_30 : decode cX8_holding 30 = .ok (.lstore 5, 2) := by decide +kernel
theorem dX8_holding_32 : decode cX8_holding 32 = .ok (.lload_n 1, 1) := by decide +kernel
theorem dX8_holding_33 : decode cX8_holding 33 = .ok (.lload 5, 2) := by decide +kernel
theorem dX8_holding_35 : decode cX8_holding 35 = .ok (.lcmp, 1) := by decide +kernel
theorem dX8_holding_36 : decode cX8_holding 36 = .ok (.ifCond .lt 24, 3) := by decide +kernel
theorem dX8_holding_39 : decode cX8_holding 39 = .ok (.lload_n 1, 1) := by decide +kernel
theorem dX8_holding_40 : decode cX8_holding 40 = .ok (.lload 5, 2) := by decide +kernel
theorem dX8_holding_42 : decode cX8_holding 42 = .ok (.aload_n 0, 1) := by decide +kernel
theorem dX8_holding_43 : decode cX8_holding 43 = .ok (.getfield 15, 3) := by decide +kernel
theorem dX8_holding_46 : decode cX8_holding 46 = .ok (.iload 4, 2) := by decide +kernel
theorem dX8_holding_48 : decode cX8_holding 48 = .ok (.invokestatic 74, 3) := by decide +kernel
theorem dX8_holding_51 : decode cX8_holding 51 = .ok (.ladd, 1) := by decide +kernel
theorem dX8_holding_52 : decode cX8_holding 52 = .ok (.lcmp, 1) := by decide +kernel
theorem dX8_holding_53 : decode cX8_holding 53 = .ok (.ifCond .ge 7, 3) := by decide +kernel
theorem dX8_holding_56 : decode cX8_holding 56 = .ok (.iconst 1, 1) := by decide +kernel
theorem dX8_holding_57 : decode cX8_holding 57 = .ok (.goto 4, 3) := by decide +kernel
theorem dX8_holding_60 : decode cX8_holding 60 = .ok (.iconst 0, 1) := by decide +kernel
theorem dX8_holding_61 : decode cX8_holding 61 = .ok (.istore 7, 2) := by decide +kernel
theorem dX8_holding_63 : decode cX8_holding 63 = .ok (.iload 7, 2) := by decide +kernel
theorem dX8_holding_65 : decode cX8_holding 65 = .ok (.ifCond .eq 25, 3) := by decide +kernel
theorem dX8_holding_68 : decode cX8_holding 68 = .ok (.iload_n 3, 1) := by decide +kernel
theorem dX8_holding_69 : decode cX8_holding 69 = .ok (.iconst (-1), 1) := by decide +kernel
theorem dX8_holding_70 : decode cX8_holding 70 = .ok (.if_icmp .eq 17, 3) := by decide +kernel
theorem dX8_holding_73 : decode cX8_holding 73 = .ok (.lload 5, 2) := by decide +kernel
theorem dX8_holding_75 : decode cX8_holding 75 = .ok (.aload_n 0, 1) := by decide +kernel
theorem dX8_holding_76 : decode cX8_holding 76 = .ok (.getfield 9, 3) := by decide +kernel
theorem dX8_holding_79 : decode cX8_holding 79 = .ok (.iload_n 3, 1) := by decide +kernel
theorem dX8_holding_80 : decode cX8_holding 80 = .ok (.invokestatic 74, 3) := by decide +kernel
theorem dX8_holding_83 : decode cX8_holding 83 = .ok (.lcmp, 1) := by decide +kernel
theorem dX8_holding_84 : decode cX8_holding 84 = .ok (.ifCond .le 6, 3) := by decide +kernel
theorem dX8_holding_87 : decode cX8_holding 87 = .ok (.iload 4, 2) := by decide +kernel
theorem dX8_holding_89 : decode cX8_holding 89 = .ok (.istore_n 3, 1) := by decide +kernel
theorem dX8_holding_90 : decode cX8_holding 90 = .ok (.iinc 4 1, 3) := by decide +kernel
theorem dX8_holding_93 : decode cX8_holding 93 = .ok (.goto (-88), 3) := by decide +kernel
theorem dX8_holding_96 : decode cX8_holding 96 = .ok (.iload_n 3, 1) := by decide +kernel
theorem dX8_holding_97 : decode cX8_holding 97 = .ok (.ireturn, 1) := by decide +kernel
theorem dX9_init_0 : decode cX9_init 0 = .ok (.aload_n 0, 1) := by decide +kernel
theorem dX9_init_1 : decode cX9_init 1 = .ok (.invokespecial 3, 3) := by decide +kernel
theorem dX9_init_4 : decode cX9_init 4 = .ok (.aload_n 0, 1) := by decide +kernel
theorem dX9_init_5 : decode cX9_init 5 = .ok (.new 9, 3) := by decide +kernel
theorem dX9_init_8 : decode cX9_init 8 = .ok (.dup, 1) := by decide +kernel
theorem dX9_init_9 : decode cX9_init 9 = .ok (.invokespecial 11, 3) := by decide +kernel
theorem dX9_init_12 : decode cX9_init 12 = .ok (.putfield 12, 3) := by decide +kernel
theorem dX9_init_15 : decode cX9_init 15 = .ok (.aload_n 0, 1) := by decide +kernel
theorem dX9_init_16 : decode cX9_init 16 = .ok (.bipush 24, 2) := by decide +kernel
theorem dX9_init_18 : decode cX9_init 18 = .ok (.newarray .int, 2) := by decide +kernel
theorem dX9_init_20 : decode cX9_init 20 = .ok (.putfield 18, 3) := by decide +kernel
theorem dX9_init_23 : decode cX9_init 23 = .ok (.aload_n 0, 1) := by decide +kernel
theorem dX9_init_24 : decode cX9_init 24 = .ok (.sipush 2000, 3) := by decide +kernel
theorem dX9_init_27 : decode cX9_init 27 = .ok (.newarray .int, 2) := by decide +kernel
theorem dX9_init_29 : decode cX9_init 29 = .ok (.putfield 22, 3) := by decide +kernel
theorem dX9_init_32 : decode cX9_init 32 = .ok (.aload_n 0, 1) := by decide +kernel
theorem dX9_init_33 : decode cX9_init 33 = .ok (.aload_n 1, 1) := by decide +kernel
theorem dX9_init_34 : decode cX9_init 34 = .ok (.putfield 25, 3) := by decide +kernel
theorem dX9_init_37 : decode cX9_init 37 = .ok (.aload_n 0, 1) := by decide +kernel
theorem dX9_init_38 : decode cX9_init 38 = .ok (.aload_n 2, 1) := by decide +kernel
theorem dX9_init_39 : decode cX9_init 39 = .ok (.putfield 29, 3) := by decide +kernel
theorem dX9_init_42 : decode cX9_init 42 = .ok (.return_, 1) := by decide +kernel
theorem dX9_readAll_0 : decode cX9_readAll 0 = .ok (.aload_n 1, 1) := by decide +kernel
theorem dX9_readAll_1 : decode cX9_readAll 1 = .ok (.getfield 33, 3) := by decide +kernel
theorem dX9_readAll_4 : decode cX9_readAll 4 = .ok (.invokevirtual 39, 3) := by decide +kernel
theorem dX9_readAll_7 : decode cX9_readAll 7 = .ok (.aload_n 1, 1) := by decide +kernel
theorem dX9_readAll_8 : decode cX9_readAll 8 = .ok (.getfield 44, 3) := by decide +kernel
theorem dX9_readAll_11 : decode cX9_readAll 11 = .ok (.invokevirtual 48, 3) := by decide +kernel
theorem dX9_readAll_14 : decode cX9_readAll 14 = .ok (.aload_n 0, 1) := by decide +kernel
theorem dX9_readAll_15 : decode cX9_readAll 15 = .ok (.getfield 29, 3) := by decide +kernel
theorem dX9_readAll_18 : decode cX9_readAll 18 = .ok (.iconst 3, 1) := by decide +kernel
theorem dX9_readAll_19 : decode cX9_readAll 19 = .ok (.invokevirtual 51, 3) := by decide +kernel
theorem dX9_readAll_22 : decode cX9_readAll 22 = .ok (.istore_n 2, 1) := by decide +kernel
theorem dX9_readAll_23 : decode cX9_readAll 23 = .ok (.aload_n 0, 1) := by decide +kernel
theorem dX9_readAll_24 : decode cX9_readAll 24 = .ok (.aload_n 0, 1) := by decide +kernel
theorem dX9_readAll_25 : decode cX9_readAll 25 = .ok (.getfield 29, 3) := by decide +kernel
theorem dX9_readAll_28 : decode cX9_readAll 28 = .ok (.iconst 3, 1) := by decide +kernel
theorem dX9_readAll_29 : decode cX9_readAll 29 = .ok (.invokevirtual 57, 3) := by decide +kernel
theorem dX9_readAll_32 : decode cX9_readAll 32 = .ok (.putfield 60, 3) := by decide +kernel
theorem dX9_readAll_35 : decode cX9_readAll 35 = .ok (.iconst 0, 1) := by decide +kernel
theorem dX9_readAll_36 : decode cX9_readAll 36 = .ok (.istore_n 3, 1) := by decide +kernel
theorem dX9_readAll_37 : decode cX9_readAll 37 = .ok (.iload_n 3, 1) := by decide +kernel
theorem dX9_readAll_38 : decode cX9_readAll 38 = .ok (.bipush 20, 2) := by decide +kernel
theorem dX9_readAll_40 : decode cX9_readAll 40 = .ok (.if_icmp .gt 166, 3) := by decide +kernel
theorem dX9_readAll_43 : decode cX9_readAll 43 = .ok (.aload_n 0, 1) := by decide +kernel
theorem dX9_readAll_44 : decode cX9_readAll 44 = .ok (.getfield 60, 3) := by decide +kernel
theorem dX9_readAll_47 : decode cX9_readAll 47 = .ok (.iload_n 2, 1) := by decide +kernel
theorem dX9_readAll_48 : decode cX9_readAll 48 = .ok (.if_icmp .ge 158, 3) := by decide +kernel
theorem dX9_readAll_51 : decode cX9_readAll 51 = .ok (.aload_n 0, 1) := by decide +kernel
theorem dX9_readAll_52 : decode cX9_readAll 52 = .ok (.getfield 25, 3) := by decide +kernel
theorem dX9_readAll_55 : decode cX9_readAll 55 = .ok (.invokevirtual 64, 3) := by decide +kernel
theorem dX9_readAll_58 : decode cX9_readAll 58 = .ok (.ifCond .eq 148, 3) := by decide +kernel
theorem dX9_readAll_61 : decode cX9_readAll 61 = .ok (.aload_n 0, 1) := by decide +kernel
theorem dX9_readAll_62 : decode cX9_readAll 62 = .ok (.getfield 25, 3) := by decide +kernel
theorem dX9_readAll_65 : decode cX9_readAll 65 = .ok (.aload_n 0, 1) := by decide +kernel
theorem dX9_readAll_66 : decode cX9_readAll 66 = .ok (.getfield 60, 3) := by decide +kernel
theorem dX9_readAll_69 : decode cX9_readAll 69 = .ok (.iload_n 2, 1) := by decide +kernel
theorem dX9_readAll_70 : decode cX9_readAll 70 = .ok (.invokevirtual 70, 3) := by decide +kernel
theorem dX9_readAll_73 : decode cX9_readAll 73 = .ok (.aload_n 0, 1) := by decide +kernel
theorem dX9_readAll_74 : decode cX9_readAll 74 = .ok (.aload_n 1, 1) := by decide +kernel
theorem dX9_readAll_75 : decode cX9_readAll 75 = .ok (.getfield 33, 3) := by decide +kernel
theorem dX9_readAll_78 : decode cX9_readAll 78 = .ok (.invokevirtual 74, 3) := by decide +kernel
theorem dX9_readAll_81 : decode cX9_readAll 81 = .ok (.lstore 4, 2) := by decide +kernel
theorem dX9_readAll_83 : decode cX9_readAll 83 = .ok (.aload_n 0, 1) := by decide +kernel
theorem dX9_readAll_84 : decode cX9_readAll 84 = .ok (.getfield 25, 3) := by decide +kernel
theorem dX9_readAll_87 : decode cX9_readAll 87 = .ok (.invokevirtual 78, 3) := by decide +kernel
theorem dX9_readAll_90 : decode cX9_readAll 90 = .ok (.istore 6, 2) := by decide +kernel
theorem dX9_readAll_92 : decode cX9_readAll 92 = .ok (.aload_n 0, 1) := by decide +kernel
theorem dX9_readAll_93 : decode cX9_readAll 93 = .ok (.getfield 25, 3) := by decide +kernel
theorem dX9_readAll_96 : decode cX9_readAll 96 = .ok (.invokevirtual 82, 3) := by decide +kernel
theorem dX9_readAll_99 : decode cX9_readAll 99 = .ok (.istore 7, 2) := by decide +kernel
theorem dX9_readAll_101 : decode cX9_readAll 101 = .ok (.aload_n 1, 1) := by decide +kernel
theorem dX9_readAll_102 : decode cX9_readAll 102 = .ok (.getfield 44, 3) := by decide +kernel
theorem dX9_readAll_105 : decode cX9_readAll 105 = .ok (.invokevirtual 85, 3) := by decide +kernel
theorem dX9_readAll_108 : decode cX9_readAll 108 = .ok (.istore 8, 2) := by decide +kernel
theorem dX9_readAll_110 : decode cX9_readAll 110 = .ok (.aload_n 1, 1) := by decide +kernel
theorem dX9_readAll_111 : decode cX9_readAll 111 = .ok (.getfield 33, 3) := by decide +kernel
theorem dX9_readAll_114 : decode cX9_readAll 114 = .ok (.aload_n 0, 1) := by decide +kernel
theorem dX9_readAll_115 : decode cX9_readAll 115 = .ok (.getfield 60, 3) := by decide +kernel
theorem dX9_readAll_118 : decode cX9_readAll 118 = .ok (.iload 8, 2) := by decide +kernel
theorem dX9_readAll_120 : decode cX9_readAll 120 = .ok (.invokevirtual 88, 3) := by decide +kernel
theorem dX9_readAll_123 : decode cX9_readAll 123 = .ok (.istore 9, 2) := by decide +kernel
theorem dX9_readAll_125 : decode cX9_readAll 125 = .ok (.aload_n 0, 1) := by decide +kernel
theorem dX9_readAll_126 : decode cX9_readAll 126 = .ok (.getfield 25, 3) := by decide +kernel
theorem dX9_readAll_129 : decode cX9_readAll 129 = .ok (.aload_n 0, 1) := by decide +kernel
theorem dX9_readAll_130 : decode cX9_readAll 130 = .ok (.getfield 29, 3) := by decide +kernel
theorem dX9_readAll_133 : decode cX9_readAll 133 = .ok (.iconst 2, 1) := by decide +kernel
theorem dX9_readAll_134 : decode cX9_readAll 134 = .ok (.invokevirtual 57, 3) := by decide +kernel
theorem dX9_readAll_137 : decode cX9_readAll 137 = .ok (.lload 4, 2) := by decide +kernel
theorem dX9_readAll_139 : decode cX9_readAll 139 = .ok (.l2i, 1) := by decide +kernel
theorem dX9_readAll_140 : decode cX9_readAll 140 = .ok (.iadd, 1) := by decide +kernel
theorem dX9_readAll_141 : decode cX9_readAll 141 = .ok (.aload_n 0, 1) := by decide +kernel
theorem dX9_readAll_142 : decode cX9_readAll 142 = .ok (.getfield 29, 3) := by decide +kernel
theorem dX9_readAll_145 : decode cX9_readAll 145 = .ok (.iconst 2, 1) := by decide +kernel
theorem dX9_readAll_146 : decode cX9_readAll 146 = .ok (.invokevirtual 51, 3) := by decide +kernel
theorem dX9_readAll_149 : decode cX9_readAll 149 = .ok (.invokevirtual 70, 3) := by decide +kernel
theorem dX9_readAll_152 : decode cX9_readAll 152 = .ok (.aload_n 0, 1) := by decide +kernel
theorem dX9_readAll_153 : decode cX9_readAll 153 = .ok (.getfield 12, 3) := by decide +kernel
theorem dX9_readAll_156 : decode cX9_readAll 156 = .ok (.aload_n 0, 1) := by decide +kernel
theorem dX9_readAll_157 : decode cX9_readAll 157 = .ok (.getfield 25, 3) := by decide +kernel
theorem dX9_readAll_160 : decode cX9_readAll 160 = .ok (.invokevirtual 92, 3) := by decide +kernel
theorem dX9_readAll_163 : decode cX9_readAll 163 = .ok (.aload_n 0, 1) := by decide +kernel
theorem dX9_readAll_164 : decode cX9_readAll 164 = .ok (.getfield 25, 3) := by decide +kernel
theorem dX9_readAll_167 : decode cX9_readAll 167 = .ok (.iload 6, 2) := by decide +kernel
theorem dX9_readAll_169 : decode cX9_readAll 169 = .ok (.iload 7, 2) := by decide +kernel
theorem dX9_readAll_171 : decode cX9_readAll 171 = .ok (.invokevirtual 70, 3) := by decide +kernel
theorem dX9_readAll_174 : decode cX9_readAll 174 = .ok (.aload_n 0, 1) := by decide +kernel
theorem dX9_readAll_175 : decode cX9_readAll 175 = .ok (.aload_n 1, 1) := by decide +kernel
theorem dX9_readAll_176 : decode cX9_readAll 176 = .ok (.getfield 44, 3) := by decide +kernel
theorem dX9_readAll_179 : decode cX9_readAll 179 = .ok (.iload 9, 2) := by decide +kernel
theorem dX9_readAll_181 : decode cX9_readAll 181 = .ok (.invokevirtual 96, 3) := by decide +kernel
theorem dX9_readAll_184 : decode cX9_readAll 184 = .ok (.aload_n 0, 1) := by decide +kernel
theorem dX9_readAll_185 : decode cX9_readAll 185 = .ok (.aload_n 1, 1) := by decide +kernel
theorem dX9_readAll_186 : decode cX9_readAll 186 = .ok (.getfield 44, 3) := by decide +kernel
theorem dX9_readAll_189 : decode cX9_readAll 189 = .ok (.iload 8, 2) := by decide +kernel
theorem dX9_readAll_191 : decode cX9_readAll 191 = .ok (.invokevirtual 100, 3) := by decide +kernel
theorem dX9_readAll_194 : decode cX9_readAll 194 = .ok (.aload_n 0, 1) := by decide +kernel
theorem dX9_readAll_195 : decode cX9_readAll 195 = .ok (.iload 7, 2) := by decide +kernel
theorem dX9_readAll_197 : decode cX9_readAll 197 = .ok (.putfield 60, 3) := by decide +kernel
theorem dX9_readAll_200 : decode cX9_readAll 200 = .ok (.iinc 3 1, 3) := by decide +kernel
theorem dX9_readAll_203 : decode cX9_readAll 203 = .ok (.goto (-166), 3) := by decide +kernel
theorem dX9_readAll_206 : decode cX9_readAll 206 = .ok (.return_, 1) := by decide +kernel
theorem dX9_readHead_0 : decode cX9_readHead 0 = .ok (.aload_n 0, 1) := by decide +kernel
theorem dX9_readHead_1 : decode cX9_readHead 1 = .ok (.getfield 25, 3) := by decide +kernel
theorem dX9_readHead_4 : decode cX9_readHead 4 = .ok (.invokevirtual 103, 3) := by decide +kernel
theorem dX9_readHead_7 : decode cX9_readHead 7 = .ok (.aload_n 1, 1) := by decide +kernel
theorem dX9_readHead_8 : decode cX9_readHead 8 = .ok (.invokevirtual 106, 3) := by decide +kernel
theorem dX9_readHead_11 : decode cX9_readHead 11 = .ok (.bipush 20, 2) := by decide +kernel
theorem dX9_readHead_13 : decode cX9_readHead 13 = .ok (.if_icmp .lt 15, 3) := by decide +kernel
theorem dX9_readHead_16 : decode cX9_readHead 16 = .ok (.aload_n 0, 1) := by decide +kernel
theorem dX9_readHead_17 : decode cX9_readHead 17 = .ok (.getfield 25, 3) := by decide +kernel
theorem dX9_readHead_20 : decode cX9_readHead 20 = .ok (.iconst 4, 1) := by decide +kernel
theorem dX9_readHead_21 : decode cX9_readHead 21 = .ok (.aload_n 0, 1) := by decide +kernel
theorem dX9_readHead_22 : decode cX9_readHead 22 = .ok (.getfield 60, 3) := by decide +kernel
theorem dX9_readHead_25 : decode cX9_readHead 25 = .ok (.invokevirtual 107, 3) := by decide +kernel
theorem dX9_readHead_28 : decode cX9_readHead 28 = .ok (.aload_n 0, 1) := by decide +kernel
theorem dX9_readHead_29 : decode cX9_readHead 29 = .ok (.getfield 25, 3) := by decide +kernel
theorem dX9_readHead_32 : decode cX9_readHead 32 = .ok (.iconst 2, 1) := by decide +kernel
theorem dX9_readHead_33 : decode cX9_readHead 33 = .ok (.iconst 5, 1) := by decide +kernel
theorem dX9_readHead_34 : decode cX9_readHead 34 = .ok (.iconst 5, 1) := by decide +kernel
theorem dX9_readHead_35 : decode cX9_readHead 35 = .ok (.invokevirtual 110, 3) := by decide +kernel
theorem dX9_readHead_38 : decode cX9_readHead 38 = .ok (.pop, 1) := by decide +kernel
theorem dX9_readHead_39 : decode cX9_readHead 39 = .ok (.aload_n 0, 1) := by decide +kernel
theorem dX9_readHead_40 : decode cX9_readHead 40 = .ok (.getfield 25, 3) := by decide +kernel
theorem dX9_readHead_43 : decode cX9_readHead 43 = .ok (.iconst 1, 1) := by decide +kernel
theorem dX9_readHead_44 : decode cX9_readHead 44 = .ok (.iconst 1, 1) := by decide +kernel
theorem dX9_readHead_45 : decode cX9_readHead 45 = .ok (.iconst 1, 1) := by decide +kernel
theorem dX9_readHead_46 : decode cX9_readHead 46 = .ok (.invokevirtual 110, 3) := by decide +kernel
theorem dX9_readHead_49 : decode cX9_readHead 49 = .ok (.pop, 1) := by decide +kernel
theorem dX9_readHead_50 : decode cX9_readHead 50 = .ok (.aload_n 0, 1) := by decide +kernel
theorem dX9_readHead_51 : decode cX9_readHead 51 = .ok (.getfield 25, 3) := by decide +kernel
theorem dX9_readHead_54 : decode cX9_readHead 54 = .ok (.iconst 1, 1) := by decide +kernel
theorem dX9_readHead_55 : decode cX9_readHead 55 = .ok (.bipush 8, 2) := by decide +kernel
theorem dX9_readHead_57 : decode cX9_readHead 57 = .ok (.bipush 8, 2) := by decide +kernel
theorem dX9_readHead_59 : decode cX9_readHead 59 = .ok (.invokevirtual 110, 3) := by decide +kernel
theorem dX9_readHead_62 : decode cX9_readHead 62 = .ok (.pop, 1) := by decide +kernel
theorem dX9_readHead_63 : decode cX9_readHead 63 = .ok (.aload_n 0, 1) := by decide +kernel
theorem dX9_readHead_64 : decode cX9_readHead 64 = .ok (.getfield 25, 3) := by decide +kernel
theorem dX9_readHead_67 : decode cX9_readHead 67 = .ok (.invokevirtual 78, 3) := by decide +kernel
theorem dX9_readHead_70 : decode cX9_readHead 70 = .ok (.istore_n 2, 1) := by decide +kernel
theorem dX9_readHead_71 : decode cX9_readHead 71 = .ok (.aload_n 0, 1) := by decide +kernel
theorem dX9_readHead_72 : decode cX9_readHead 72 = .ok (.getfield 25, 3) := by decide +kernel
theorem dX9_readHead_75 : decode cX9_readHead 75 = .ok (.iconst 4, 1) := by decide +kernel
theorem dX9_readHead_76 : decode cX9_readHead 76 = .ok (.invokevirtual 114, 3) := by decide +kernel
theorem dX9_readHead_79 : decode cX9_readHead 79 = .ok (.lstore_n 3, 1) := by decide +kernel
theorem dX9_readHead_80 : decode cX9_readHead 80 = .ok (.aload_n 0, 1) := by decide +kernel
theorem dX9_readHead_81 : decode cX9_readHead 81 = .ok (.getfield 29, 3) := by decide +kernel
theorem dX9_readHead_84 : decode cX9_readHead 84 = .ok (.iconst 2, 1) := by decide +kernel
theorem dX9_readHead_85 : decode cX9_readHead 85 = .ok (.lload_n 3, 1) := by decide +kernel
theorem dX9_readHead_86 : decode cX9_readHead 86 = .ok (.invokevirtual 118, 3) := by decide +kernel
theorem dX9_readHead_89 : decode cX9_readHead 89 = .ok (.ifCond .ne 14, 3) := by decide +kernel
theorem dX9_readHead_92 : decode cX9_readHead 92 = .ok (.aload_n 0, 1) := by decide +kernel
theorem dX9_readHead_93 : decode cX9_readHead 93 = .ok (.getfield 25, 3) := by decide +kernel
theorem dX9_readHead_96 : decode cX9_readHead 96 = .ok (.iconst 3, 1) := by decide +kernel
theorem dX9_readHead_97 : decode cX9_readHead 97 = .ok (.iload_n 2, 1) := by decide +kernel
theorem dX9_readHead_98 : decode cX9_readHead 98 = .ok (.invokevirtual 107, 3) := by decide +kernel
theorem dX9_readHead_101 : decode cX9_readHead 101 = .ok (.lconst 0, 1) := by decide +kernel
theorem dX9_readHead_102 : decode cX9_readHead 102 = .ok (.lreturn, 1) := by decide +kernel
theorem dX9_readHead_103 : decode cX9_readHead 103 = .ok (.lload_n 3, 1) := by decide +kernel
theorem dX9_readHead_104 : decode cX9_readHead 104 = .ok (.lreturn, 1) := by decide +kernel
theorem dX9_readEntries_0 : decode cX9_readEntries 0 = .ok (.aload_n 0, 1) := by decide +kernel
theorem dX9_readEntries_1 : decode cX9_readEntries 1 = .ok (.iconst 0, 1) := by decide +kernel
theorem dX9_readEntries_2 : decode cX9_readEntries 2 = .ok (.putfield 122, 3) := by decide +kernel
theorem dX9_readEntries_5 : decode cX9_readEntries 5 = .ok (.aload_n 0, 1) := by decide +kernel
theorem dX9_readEntries_6 : decode cX9_readEntries 6 = .ok (.iconst 0, 1) := by decide +kernel
theorem dX9_readEntries_7 : decode cX9_readEntries 7 = .ok (.putfield 125, 3) := by decide +kernel
theorem dX9_readEntries_10 : decode cX9_readEntries 10 = .ok (.iconst 0, 1) := by decide +kernel
theorem dX9_readEntries_11 : decode cX9_readEntries 11 = .ok (.istore_n 3, 1) := by decide +kernel
theorem dX9_readEntries_12 : decode cX9_readEntries 12 = .ok (.iconst 0, 1) := by decide +kernel
theorem dX9_readEntries_13 : decode cX9_readEntries 13 = .ok (.istore 4, 2) := by decide +kernel
theorem dX9_readEntries_15 : decode cX9_readEntries 15 = .ok (.iload 4, 2) := by decide +kernel
theorem dX9_readEntries_17 : decode cX9_readEntries 17 = .ok (.sipush 8000, 3) := by decide +kernel
theorem dX9_readEntries_20 : decode cX9_readEntries 20 = .ok (.if_icmp .ge 104, 3) := by decide +kernel
theorem dX9_readEntries_23 : decode cX9_readEntries 23 = .ok (.iload_n 3, 1) := by decide +kernel
theorem dX9_readEntries_24 : decode cX9_readEntries 24 = .ok (.ifCond .ne 100, 3) := by decide +kernel
theorem dX9_readEntries_27 : decode cX9_readEntries 27 = .ok (.aload_n 0, 1) := by decide +kernel
theorem dX9_readEntries_28 : decode cX9_readEntries 28 = .ok (.getfield 25, 3) := by decide +kernel
theorem dX9_readEntries_31 : decode cX9_readEntries 31 = .ok (.invokevirtual 64, 3) := by decide +kernel
theorem dX9_readEntries_34 : decode cX9_readEntries 34 = .ok (.ifCond .eq 90, 3) := by decide +kernel
theorem dX9_readEntries_37 : decode cX9_readEntries 37 = .ok (.aload_n 0, 1) := by decide +kernel
theorem dX9_readEntries_38 : decode cX9_readEntries 38 = .ok (.getfield 25, 3) := by decide +kernel
theorem dX9_readEntries_41 : decode cX9_readEntries 41 = .ok (.invokevirtual 78, 3) := by decide +kernel
theorem dX9_readEntries_44 : decode cX9_readEntries 44 = .ok (.istore 5, 2) := by decide +kernel
theorem dX9_readEntries_46 : decode cX9_readEntries 46 = .ok (.aload_n 0, 1) := by decide +kernel
theorem dX9_readEntries_47 : decode cX9_readEntries 47 = .ok (.getfield 25, 3) := by decide +kernel
theorem dX9_readEntries_50 : decode cX9_readEntries 50 = .ok (.invokevirtual 128, 3) := by decide +kernel
theorem dX9_readEntries_53 : decode cX9_readEntries 53 = .ok (.lstore 6, 2) := by decide +kernel
theorem dX9_readEntries_55 : decode cX9_readEntries 55 = .ok (.lload 6, 2) := by decide +kernel
theorem dX9_readEntries_57 : decode cX9_readEntries 57 = .ok (.lconst 0, 1) := by decide +kernel
theorem dX9_readEntries_58 : decode cX9_readEntries 58 = .ok (.lcmp, 1) := by decide +kernel
theorem dX9_readEntries_59 : decode cX9_readEntries 59 = .ok (.ifCond .eq 16, 3) := by decide +kernel
theorem dX9_readEntries_62 : decode cX9_readEntries 62 = .ok (.aload_n 0, 1) := by decide +kernel
theorem dX9_readEntries_63 : decode cX9_readEntries 63 = .ok (.aload_n 1, 1) := by decide +kernel
theorem dX9_readEntries_64 : decode cX9_readEntries 64 = .ok (.iload_n 2, 1) := by decide +kernel
theorem dX9_readEntries_65 : decode cX9_readEntries 65 = .ok (.iload 5, 2) := by decide +kernel
theorem dX9_readEntries_67 : decode cX9_readEntries 67 = .ok (.lload 6, 2) := by decide +kernel
theorem dX9_readEntries_69 : decode cX9_readEntries 69 = .ok (.invokevirtual 132, 3) := by decide +kernel
theorem dX9_readEntries_72 : decode cX9_readEntries 72 = .ok (.goto 33, 3) := by decide +kernel
theorem dX9_readEntries_75 : decode cX9_readEntries 75 = .ok (.aload_n 0, 1) := by decide +kernel
theorem dX9_readEntries_76 : decode cX9_readEntries 76 = .ok (.getfield 122, 3) := by decide +kernel
theorem dX9_readEntries_79 : decode cX9_readEntries 79 = .ok (.ifCond .le 16, 3) := by decide +kernel
theorem dX9_readEntries_82 : decode cX9_readEntries 82 = .ok (.aload_n 0, 1) := by decide +kernel
theorem dX9_readEntries_83 : decode cX9_readEntries 83 = .ok (.dup, 1) := by decide +kernel
theorem dX9_readEntries_84 : decode cX9_readEntries 84 = .ok (.getfield 122, 3) := by decide +kernel
theorem dX9_readEntries_87 : decode cX9_readEntries 87 = .ok (.iconst 1, 1) := by decide +kernel
theorem dX9_readEntries_88 : decode cX9_readEntries 88 = .ok (.isub, 1) := by decide +kernel
theorem dX9_readEntries_89 : decode cX9_readEntries 89 = .ok (.putfield 122, 3) := by decide +kernel
theorem dX9_readEntries_92 : decode cX9_readEntries 92 = .ok (.goto 13, 3) := by decide +kernel
theorem dX9_readEntries_95 : decode cX9_readEntries 95 = .ok (.aload_n 0, 1) := by decide +kernel
theorem dX9_readEntries_96 : decode cX9_readEntries 96 = .ok (.getfield 25, 3) := by decide +kernel
theorem dX9_readEntries_99 : decode cX9_readEntries 99 = .ok (.iconst 2, 1) := by decide +kernel
theorem dX9_readEntries_100 : decode cX9_readEntries 100 = .ok (.iload 5, 2) := by decide +kernel
theorem dX9_readEntries_102 : decode cX9_readEntries 102 = .ok (.invokevirtual 107, 3) := by decide +kernel
theorem dX9_readEntries_105 : decode cX9_readEntries 105 = .ok (.aload_n 0, 1) := by decide +kernel
theorem dX9_readEntries_106 : decode cX9_readEntries 106 = .ok (.getfield 122, 3) := by decide +kernel
theorem dX9_readEntries_109 : decode cX9_readEntries 109 = .ok (.ifCond .ne 7, 3) := by decide +kernel
theorem dX9_readEntries_112 : decode cX9_readEntries 112 = .ok (.iconst 1, 1) := by decide +kernel
theorem dX9_readEntries_113 : decode cX9_readEntries 113 = .ok (.goto 4, 3) := by decide +kernel
theorem dX9_readEntries_116 : decode cX9_readEntries 116 = .ok (.iconst 0, 1) := by decide +kernel
theorem dX9_readEntries_117 : decode cX9_readEntries 117 = .ok (.istore_n 3, 1) := by decide +kernel
theorem dX9_readEntries_118 : decode cX9_readEntries 118 = .ok (.iinc 4 1, 3) := by decide +kernel
theorem dX9_readEntries_121 : decode cX9_readEntries 121 = .ok (.goto (-106), 3) := by decide +kernel
theorem dX9_readEntries_124 : decode cX9_readEntries 124 = .ok (.aload_n 0, 1) := by decide +kernel
theorem dX9_readEntries_125 : decode cX9_readEntries 125 = .ok (.getfield 25, 3) := by decide +kernel
theorem dX9_readEntries_128 : decode cX9_readEntries 128 = .ok (.invokevirtual 78, 3) := by decide +kernel
theorem dX9_readEntries_131 : decode cX9_readEntries 131 = .ok (.aload_n 0, 1) := by decide +kernel
theorem dX9_readEntries_132 : decode cX9_readEntries 132 = .ok (.getfield 25, 3) := by decide +kernel
theorem dX9_readEntries_135 : decode cX9_readEntries 135 = .ok (.invokevirtual 82, 3) := by decide +kernel
theorem dX9_readEntries_138 : decode cX9_readEntries 138 = .ok (.if_icmp .eq 18, 3) := by decide +kernel
theorem dX9_readEntries_141 : decode cX9_readEntries 141 = .ok (.aload_n 0, 1) := by decide +kernel
theorem dX9_readEntries_142 : decode cX9_readEntries 142 = .ok (.getfield 25, 3) := by decide +kernel
theorem dX9_readEntries_145 : decode cX9_readEntries 145 = .ok (.iconst 2, 1) := by decide +kernel
theorem dX9_readEntries_146 : decode cX9_readEntries 146 = .ok (.aload_n 0, 1) := by decide +kernel
theorem dX9_readEntries_147 : decode cX9_readEntries 147 = .ok (.getfield 25, 3) := by decide +kernel
theorem dX9_readEntries_150 : decode cX9_readEntries 150 = .ok (.invokevirtual 78, 3) := by decide +kernel
theorem dX9_readEntries_153 : decode cX9_readEntries 153 = .ok (.invokevirtual 107, 3) := by decide +kernel
theorem dX9_readEntries_156 : decode cX9_readEntries 156 = .ok (.return_, 1) := by decide +kernel
theorem dX9_readEntry_0 : decode cX9_readEntry 0 = .ok (.aload_n 0, 1) := by decide +kernel
theorem dX9_readEntry_1 : decode cX9_readEntry 1 = .ok (.getfield 12, 3) := by decide +kernel
theorem dX9_readEntry_4 : decode cX9_readEntry 4 = .ok (.lload 4, 2) := by decide +kernel
theorem dX9_readEntry_6 : decode cX9_readEntry 6 = .ok (.invokevirtual 136, 3) := by decide +kernel
theorem dX9_readEntry_9 : decode cX9_readEntry 9 = .ok (.istore 6, 2) := by decide +kernel
theorem dX9_readEntry_11 : decode cX9_readEntry 11 = .ok (.iload 6, 2) := by decide +kernel
theorem dX9_readEntry_13 : decode cX9_readEntry 13 = .ok (.iconst (-1), 1) := by decide +kernel
theorem dX9_readEntry_14 : decode cX9_readEntry 14 = .ok (.if_icmp .ne 12, 3) := by decide +kernel
theorem dX9_readEntry_17 : decode cX9_readEntry 17 = .ok (.aload_n 0, 1) := by decide +kernel
theorem dX9_readEntry_18 : decode cX9_readEntry 18 = .ok (.getfield 25, 3) := by decide +kernel
theorem dX9_readEntry_21 : decode cX9_readEntry 21 = .ok (.iconst 3, 1) := by decide +kernel
theorem dX9_readEntry_22 : decode cX9_readEntry 22 = .ok (.iload_n 3, 1) := by decide +kernel
theorem dX9_readEntry_23 : decode cX9_readEntry 23 = .ok (.invokevirtual 107, 3) := by decide +kernel
theorem dX9_readEntry_26 : decode cX9_readEntry 26 = .ok (.aload_n 1, 1) := by decide +kernel
theorem dX9_readEntry_27 : decode cX9_readEntry 27 = .ok (.invokevirtual 85, 3) := by decide +kernel
theorem dX9_readEntry_30 : decode cX9_readEntry 30 = .ok (.sipush 400, 3) := by decide +kernel
theorem dX9_readEntry_33 : decode cX9_readEntry 33 = .ok (.if_icmp .ge 12, 3) := by decide +kernel
theorem dX9_readEntry_36 : decode cX9_readEntry 36 = .ok (.aload_n 0, 1) := by decide +kernel
theorem dX9_readEntry_37 : decode cX9_readEntry 37 = .ok (.getfield 122, 3) := by decide +kernel
theorem dX9_readEntry_40 : decode cX9_readEntry 40 = .ok (.bipush 24, 2) := by decide +kernel
theorem dX9_readEntry_42 : decode cX9_readEntry 42 = .ok (.if_icmp .lt 12, 3) := by decide +kernel
theorem dX9_readEntry_45 : decode cX9_readEntry 45 = .ok (.aload_n 0, 1) := by decide +kernel
theorem dX9_readEntry_46 : decode cX9_readEntry 46 = .ok (.getfield 25, 3) := by decide +kernel
theorem dX9_readEntry_49 : decode cX9_readEntry 49 = .ok (.iconst 4, 1) := by decide +kernel
theorem dX9_readEntry_50 : decode cX9_readEntry 50 = .ok (.iload_n 3, 1) := by decide +kernel
theorem dX9_readEntry_51 : decode cX9_readEntry 51 = .ok (.invokevirtual 107, 3) := by decide +kernel
theorem dX9_readEntry_54 : decode cX9_readEntry 54 = .ok (.aload_n 0, 1) := by decide +kernel
theorem dX9_readEntry_55 : decode cX9_readEntry 55 = .ok (.getfield 25, 3) := by decide +kernel
theorem dX9_readEntry_58 : decode cX9_readEntry 58 = .ok (.invokevirtual 64, 3) := by decide +kernel
theorem dX9_readEntry_61 : decode cX9_readEntry 61 = .ok (.ifCond .ne 4, 3) := by decide +kernel
theorem dX9_readEntry_64 : decode cX9_readEntry 64 = .ok (.return_, 1) := by decide +kernel
theorem dX9_readEntry_65 : decode cX9_readEntry 65 = .ok (.aload_n 0, 1) := by decide +kernel
theorem dX9_readEntry_66 : decode cX9_readEntry 66 = .ok (.getfield 122, 3) := by decide +kernel
theorem dX9_readEntry_69 : decode cX9_readEntry 69 = .ok (.ifCond .le 19, 3) := by decide +kernel
theorem dX9_readEntry_72 : decode cX9_readEntry 72 = .ok (.aload_n 0, 1) := by decide +kernel
theorem dX9_readEntry_73 : decode cX9_readEntry 73 = .ok (.getfield 18, 3) := by decide +kernel
theorem dX9_readEntry_76 : decode cX9_readEntry 76 = .ok (.aload_n 0, 1) := by decide +kernel
theorem dX9_readEntry_77 : decode cX9_readEntry 77 = .ok (.getfield 122, 3) := by decide +kernel
theorem dX9_readEntry_80 : decode cX9_readEntry 80 = .ok (.iconst 1, 1) := by decide +kernel
theorem dX9_readEntry_81 : decode cX9_readEntry 81 = .ok (.isub, 1) := by decide +kernel
theorem dX9_readEntry_82 : decode cX9_readEntry 82 = .ok (.invokestatic 140, 3) := by decide +kernel
theorem dX9_readEntry_85 : decode cX9_readEntry 85 = .ok (.goto 4, 3) := by decide +kernel
theorem dX9_readEntry_88 : decode cX9_readEntry 88 = .ok (.iconst (-1), 1) := by decide +kernel
theorem dX9_readEntry_89 : decode cX9_readEntry 89 = .ok (.istore 7, 2) := by decide +kernel
theorem dX9_readEntry_91 : decode cX9_readEntry 91 = .ok (.aload_n 1, 1) := by decide +kernel
theorem dX9_readEntry_92 : decode cX9_readEntry 92 = .ok (.aload_n 0, 1) := by decide +kernel
theorem dX9_readEntry_93 : decode cX9_readEntry 93 = .ok (.getfield 12, 3) := by decide +kernel
theorem dX9_readEntry_96 : decode cX9_readEntry 96 = .ok (.iload 6, 2) := by decide +kernel
theorem dX9_readEntry_98 : decode cX9_readEntry 98 = .ok (.invokevirtual 144, 3) := by decide +kernel
theorem dX9_readEntry_101 : decode cX9_readEntry 101 = .ok (.iload 7, 2) := by decide +kernel
theorem dX9_readEntry_103 : decode cX9_readEntry 103 = .ok (.iload_n 2, 1) := by decide +kernel
theorem dX9_readEntry_104 : decode cX9_readEntry 104 = .ok (.iload_n 3, 1) := by decide +kernel
theorem dX9_readEntry_105 : decode cX9_readEntry 105 = .ok (.invokevirtual 147, 3) := by decide +kernel
theorem dX9_readEntry_108 : decode cX9_readEntry 108 = .ok (.istore 8, 2) := by decide +kernel
theorem dX9_readEntry_110 : decode cX9_readEntry 110 = .ok (.aload_n 0, 1) := by decide +kernel
theorem dX9_readEntry_111 : decode cX9_readEntry 111 = .ok (.getfield 12, 3) := by decide +kernel
theorem dX9_readEntry_114 : decode cX9_readEntry 114 = .ok (.iload 6, 2) := by decide +kernel
theorem dX9_readEntry_116 : decode cX9_readEntry 116 = .ok (.invokevirtual 150, 3) := by decide +kernel
theorem dX9_readEntry_119 : decode cX9_readEntry 119 = .ok (.istore 9, 2) := by decide +kernel
theorem dX9_readEntry_121 : decode cX9_readEntry 121 = .ok (.iconst 0, 1) := by decide +kernel
theorem dX9_readEntry_122 : decode cX9_readEntry 122 = .ok (.istore 10, 2) := by decide +kernel
theorem dX9_readEntry_124 : decode cX9_readEntry 124 = .ok (.iload 10, 2) := by decide +kernel
theorem dX9_readEntry_126 : decode cX9_readEntry 126 = .ok (.bipush 16, 2) := by decide +kernel
theorem dX9_readEntry_128 : decode cX9_readEntry 128 = .ok (.if_icmp .ge 90, 3) := by decide +kernel
theorem dX9_readEntry_131 : decode cX9_readEntry 131 = .ok (.iload 10, 2) := by decide +kernel
theorem dX9_readEntry_133 : decode cX9_readEntry 133 = .ok (.iload 9, 2) := by decide +kernel
theorem dX9_readEntry_135 : decode cX9_readEntry 135 = .ok (.if_icmp .ge 83, 3) := by decide +kernel
theorem dX9_readEntry_138 : decode cX9_readEntry 138 = .ok (.aload_n 0, 1) := by decide +kernel
theorem dX9_readEntry_139 : decode cX9_readEntry 139 = .ok (.getfield 25, 3) := by decide +kernel
theorem dX9_readEntry_142 : decode cX9_readEntry 142 = .ok (.invokevirtual 64, 3) := by decide +kernel
theorem dX9_readEntry_145 : decode cX9_readEntry 145 = .ok (.ifCond .eq 73, 3) := by decide +kernel
theorem dX9_readEntry_148 : decode cX9_readEntry 148 = .ok (.aload_n 0, 1) := by decide +kernel
theorem dX9_readEntry_149 : decode cX9_readEntry 149 = .ok (.getfield 12, 3) := by decide +kernel
theorem dX9_readEntry_152 : decode cX9_readEntry 152 = .ok (.iload 6, 2) := by decide +kernel
theorem dX9_readEntry_154 : decode cX9_readEntry 154 = .ok (.iload 10, 2) := by decide +kernel
theorem dX9_readEntry_156 : decode cX9_readEntry 156 = .ok (.invokevirtual 153, 3) := by decide +kernel
theorem dX9_readEntry_159 : decode cX9_readEntry 159 = .ok (.istore 11, 2) := by decide +kernel
theorem dX9_readEntry_161 : decode cX9_readEntry 161 = .ok (.aload_n 0, 1) := by decide +kernel
theorem dX9_readEntry_162 : decode cX9_readEntry 162 = .ok (.iload 11, 2) := by decide +kernel
theorem dX9_readEntry_164 : decode cX9_readEntry 164 = .ok (.aload_n 0, 1) := by decide +kernel
theorem dX9_readEntry_165 : decode cX9_readEntry 165 = .ok (.getfield 12, 3) := by decide +kernel
theorem dX9_readEntry_168 : decode cX9_readEntry 168 = .ok (.iload 6, 2) := by decide +kernel
theorem dX9_readEntry_170 : decode cX9_readEntry 170 = .ok (.iload 10, 2) := by decide +kernel
theorem dX9_readEntry_172 : decode cX9_readEntry 172 = .ok (.invokevirtual 156, 3) := by decide +kernel
theorem dX9_readEntry_175 : decode cX9_readEntry 175 = .ok (.invokevirtual 160, 3) := by decide +kernel
theorem dX9_readEntry_178 : decode cX9_readEntry 178 = .ok (.lstore 12, 2) := by decide +kernel
theorem dX9_readEntry_180 : decode cX9_readEntry 180 = .ok (.aload_n 0, 1) := by decide +kernel
theorem dX9_readEntry_181 : decode cX9_readEntry 181 = .ok (.getfield 25, 3) := by decide +kernel
theorem dX9_readEntry_184 : decode cX9_readEntry 184 = .ok (.invokevirtual 64, 3) := by decide +kernel
theorem dX9_readEntry_187 : decode cX9_readEntry 187 = .ok (.ifCond .eq 25, 3) := by decide +kernel
theorem dX9_readEntry_190 : decode cX9_readEntry 190 = .ok (.aload_n 0, 1) := by decide +kernel
theorem dX9_readEntry_191 : decode cX9_readEntry 191 = .ok (.aload_n 1, 1) := by decide +kernel
theorem dX9_readEntry_192 : decode cX9_readEntry 192 = .ok (.iload 8, 2) := by decide +kernel
theorem dX9_readEntry_194 : decode cX9_readEntry 194 = .ok (.aload_n 0, 1) := by decide +kernel
theorem dX9_readEntry_195 : decode cX9_readEntry 195 = .ok (.getfield 12, 3) := by decide +kernel
theorem dX9_readEntry_198 : decode cX9_readEntry 198 = .ok (.iload 6, 2) := by decide +kernel
theorem dX9_readEntry_200 : decode cX9_readEntry 200 = .ok (.iload 10, 2) := by decide +kernel
theorem dX9_readEntry_202 : decode cX9_readEntry 202 = .ok (.invokevirtual 164, 3) := by decide +kernel
theorem dX9_readEntry_205 : decode cX9_readEntry 205 = .ok (.iload 11, 2) := by decide +kernel
theorem dX9_readEntry_207 : decode cX9_readEntry 207 = .ok (.lload 12, 2) := by decide +kernel
theorem dX9_readEntry_209 : decode cX9_readEntry 209 = .ok (.invokevirtual 167, 3) := by decide +kernel
theorem dX9_readEntry_212 : decode cX9_readEntry 212 = .ok (.iinc 10 1, 3) := by decide +kernel
theorem dX9_readEntry_215 : decode cX9_readEntry 215 = .ok (.goto (-91), 3) := by decide +kernel
theorem dX9_readEntry_218 : decode cX9_readEntry 218 = .ok (.aload_n 0, 1) := by decide +kernel
theorem dX9_readEntry_219 : decode cX9_readEntry 219 = .ok (.getfield 12, 3) := by decide +kernel
theorem dX9_readEntry_222 : decode cX9_readEntry 222 = .ok (.iload 6, 2) := by decide +kernel
theorem dX9_readEntry_224 : decode cX9_readEntry 224 = .ok (.invokevirtual 171, 3) := by decide +kernel
theorem dX9_readEntry_227 : decode cX9_readEntry 227 = .ok (.ifCond .eq 26, 3) := by decide +kernel
theorem dX9_readEntry_230 : decode cX9_readEntry 230 = .ok (.aload_n 0, 1) := by decide +kernel
theorem dX9_readEntry_231 : decode cX9_readEntry 231 = .ok (.getfield 18, 3) := by decide +kernel
theorem dX9_readEntry_234 : decode cX9_readEntry 234 = .ok (.aload_n 0, 1) := by decide +kernel
theorem dX9_readEntry_235 : decode cX9_readEntry 235 = .ok (.getfield 122, 3) := by decide +kernel
theorem dX9_readEntry_238 : decode cX9_readEntry 238 = .ok (.iload 8, 2) := by decide +kernel
theorem dX9_readEntry_240 : decode cX9_readEntry 240 = .ok (.invokestatic 175, 3) := by decide +kernel
theorem dX9_readEntry_243 : decode cX9_readEntry 243 = .ok (.aload_n 0, 1) := by decide +kernel
theorem dX9_readEntry_244 : decode cX9_readEntry 244 = .ok (.dup, 1) := by decide +kernel
theorem dX9_readEntry_245 : decode cX9_readEntry 245 = .ok (.getfield 122, 3) := by decide +kernel
theorem dX9_readEntry_248 : decode cX9_readEntry 248 = .ok (.iconst 1, 1) := by decide +kernel
theorem dX9_readEntry_249 : decode cX9_readEntry 249 = .ok (.iadd, 1) := by decide +kernel
theorem dX9_readEntry_250 : decode cX9_readEntry 250 = .ok (.putfield 122, 3) := by decide +kernel
theorem dX9_readEntry_253 : decode cX9_readEntry 253 = .ok (.return_, 1) := by decide +kernel
theorem dX9_readValue_0 : decode cX9_readValue 0 = .ok (.iload_n 1, 1) := by decide +kernel
theorem dX9_readValue_1 : decode cX9_readValue 1 = .ok (.tableswitch 218 1 25 #[115, 218, 218, 218, 129, 138, 147, 173, 218, 218, 120, 218, 165, 201, 157, 218, 218, 218, 206, 218, 218, 218, 138, 211, 216], 115) := by decide +kernel
theorem dX9_readValue_116 : decode cX9_readValue 116 = .ok (.aload_n 0, 1) := by decide +kernel
theorem dX9_readValue_117 : decode cX9_readValue 117 = .ok (.invokevirtual 179, 3) := by decide +kernel
theorem dX9_readValue_120 : decode cX9_readValue 120 = .ok (.lreturn, 1) := by decide +kernel
theorem dX9_readValue_121 : decode cX9_readValue 121 = .ok (.aload_n 0, 1) := by decide +kernel
theorem dX9_readValue_122 : decode cX9_readValue 122 = .ok (.getfield 25, 3) := by decide +kernel
theorem dX9_readValue_125 : decode cX9_readValue 125 = .ok (.iconst 1, 1) := by decide +kernel
theorem dX9_readValue_126 : decode cX9_readValue 126 = .ok (.invokevirtual 114, 3) := by decide +kernel
theorem dX9_readValue_129 : decode cX9_readValue 129 = .ok (.lreturn, 1) := by decide +kernel
theorem dX9_readValue_130 : decode cX9_readValue 130 = .ok (.aload_n 0, 1) := by decide +kernel
theorem dX9_readValue_131 : decode cX9_readValue 131 = .ok (.getfield 25, 3) := by decide +kernel
theorem dX9_readValue_134 : decode cX9_readValue 134 = .ok (.iconst 2, 1) := by decide +kernel
theorem dX9_readValue_135 : decode cX9_readValue 135 = .ok (.invokevirtual 114, 3) := by decide +kernel
theorem dX9_readValue_138 : decode cX9_readValue 138 = .ok (.lreturn, 1) := by decide +kernel
theorem dX9_readValue_139 : decode cX9_readValue 139 = .ok (.aload_n 0, 1) := by decide +kernel
theorem dX9_readValue_140 : decode cX9_readValue 140 = .ok (.getfield 25, 3) := by decide +kernel
theorem dX9_readValue_143 : decode cX9_readValue 143 = .ok (.iconst 4, 1) := by decide +kernel
theorem dX9_readValue_144 : decode cX9_readValue 144 = .ok (.invokevirtual 114, 3) := by decide +kernel
theorem dX9_readValue_147 : decode cX9_readValue 147 = .ok (.lreturn, 1) := by decide +kernel
theorem dX9_readValue_148 : decode cX9_readValue 148 = .ok (.aload_n 0, 1) := by decide +kernel
theorem dX9_readValue_149 : decode cX9_readValue 149 = .ok (.getfield 25, 3) := by decide +kernel
theorem dX9_readValue_152 : decode cX9_readValue 152 = .ok (.bipush 8, 2) := by decide +kernel
theorem dX9_readValue_154 : decode cX9_readValue 154 = .ok (.invokevirtual 114, 3) := by decide +kernel
theorem dX9_readValue_157 : decode cX9_readValue 157 = .ok (.lreturn, 1) := by decide +kernel
theorem dX9_readValue_158 : decode cX9_readValue 158 = .ok (.aload_n 0, 1) := by decide +kernel
theorem dX9_readValue_159 : decode cX9_readValue 159 = .ok (.getfield 25, 3) := by decide +kernel
theorem dX9_readValue_162 : decode cX9_readValue 162 = .ok (.invokevirtual 128, 3) := by decide +kernel
theorem dX9_readValue_165 : decode cX9_readValue 165 = .ok (.lreturn, 1) := by decide +kernel
theorem dX9_readValue_166 : decode cX9_readValue 166 = .ok (.aload_n 0, 1) := by decide +kernel
theorem dX9_readValue_167 : decode cX9_readValue 167 = .ok (.getfield 25, 3) := by decide +kernel
theorem dX9_readValue_170 : decode cX9_readValue 170 = .ok (.invokevirtual 182, 3) := by decide +kernel
theorem dX9_readValue_173 : decode cX9_readValue 173 = .ok (.lreturn, 1) := by decide +kernel
theorem dX9_readValue_174 : decode cX9_readValue 174 = .ok (.aload_n 0, 1) := by decide +kernel
theorem dX9_readValue_175 : decode cX9_readValue 175 = .ok (.aload_n 0, 1) := by decide +kernel
theorem dX9_readValue_176 : decode cX9_readValue 176 = .ok (.getfield 25, 3) := by decide +kernel
theorem dX9_readValue_179 : decode cX9_readValue 179 = .ok (.invokevirtual 78, 3) := by decide +kernel
theorem dX9_readValue_182 : decode cX9_readValue 182 = .ok (.putfield 185, 3) := by decide +kernel
theorem dX9_readValue_185 : decode cX9_readValue 185 = .ok (.aload_n 0, 1) := by decide +kernel
theorem dX9_readValue_186 : decode cX9_readValue 186 = .ok (.aload_n 0, 1) := by decide +kernel
theorem dX9_readValue_187 : decode cX9_readValue 187 = .ok (.getfield 25, 3) := by decide +kernel
theorem dX9_readValue_190 : decode cX9_readValue 190 = .ok (.invokevirtual 188, 3) := by decide +kernel
theorem dX9_readValue_193 : decode cX9_readValue 193 = .ok (.putfield 191, 3) := by decide +kernel
theorem dX9_readValue_196 : decode cX9_readValue 196 = .ok (.aload_n 0, 1) := by decide +kernel
theorem dX9_readValue_197 : decode cX9_readValue 197 = .ok (.getfield 185, 3) := by decide +kernel
theorem dX9_readValue_200 : decode cX9_readValue 200 = .ok (.i2l, 1) := by decide +kernel
theorem dX9_readValue_201 : decode cX9_readValue 201 = .ok (.lreturn, 1) := by decide +kernel
theorem dX9_readValue_202 : decode cX9_readValue 202 = .ok (.aload_n 0, 1) := by decide +kernel
theorem dX9_readValue_203 : decode cX9_readValue 203 = .ok (.invokevirtual 194, 3) := by decide +kernel
theorem dX9_readValue_206 : decode cX9_readValue 206 = .ok (.lreturn, 1) := by decide +kernel
theorem dX9_readValue_207 : decode cX9_readValue 207 = .ok (.aload_n 0, 1) := by decide +kernel
theorem dX9_readValue_208 : decode cX9_readValue 208 = .ok (.invokevirtual 197, 3) := by decide +kernel
theorem dX9_readValue_211 : decode cX9_readValue 211 = .ok (.lreturn, 1) := by decide +kernel
theorem dX9_readValue_212 : decode cX9_readValue 212 = .ok (.aload_n 0, 1) := by decide +kernel
theorem dX9_readValue_213 : decode cX9_readValue 213 = .ok (.invokevirtual 200, 3) := by decide +kernel
theorem dX9_readValue_216 : decode cX9_readValue 216 = .ok (.lreturn, 1) := by decide +kernel
theorem dX9_readValue_217 : decode cX9_readValue 217 = .ok (.lconst 1, 1) := by decide +kernel
theorem dX9_readValue_218 : decode cX9_readValue 218 = .ok (.lreturn, 1) := by decide +kernel
theorem dX9_readValue_219 : decode cX9_readValue 219 = .ok (.lload_n 2, 1) := by decide +kernel
theorem dX9_readValue_220 : decode cX9_readValue 220 = .ok (.lreturn, 1) := by decide +kernel
theorem dX9_readAddress_0 : decode cX9_readAddress 0 = .ok (.aload_n 0, 1) := by decide +kernel
theorem dX9_readAddress_1 : decode cX9_readAddress 1 = .ok (.getfield 25, 3) := by decide +kernel
theorem dX9_readAddress_4 : decode cX9_readAddress 4 = .ok (.invokevirtual 78, 3) := by decide +kernel
theorem dX9_readAddress_7 : decode cX9_readAddress 7 = .ok (.istore_n 1, 1) := by decide +kernel
theorem dX9_readAddress_8 : decode cX9_readAddress 8 = .ok (.aload_n 0, 1) := by decide +kernel
theorem dX9_readAddress_9 : decode cX9_readAddress 9 = .ok (.getfield 25, 3) := by decide +kernel
theorem dX9_readAddress_12 : decode cX9_readAddress 12 = .ok (.bipush 8, 2) := by decide +kernel
theorem dX9_readAddress_14 : decode cX9_readAddress 14 = .ok (.invokevirtual 114, 3) := by decide +kernel
theorem dX9_readAddress_17 : decode cX9_readAddress 17 = .ok (.lstore_n 2, 1) := by decide +kernel
theorem dX9_readAddress_18 : decode cX9_readAddress 18 = .ok (.lload_n 2, 1) := by decide +kernel
theorem dX9_readAddress_19 : decode cX9_readAddress 19 = .ok (.lconst 0, 1) := by decide +kernel
theorem dX9_readAddress_20 : decode cX9_readAddress 20 = .ok (.lcmp, 1) := by decide +kernel
theorem dX9_readAddress_21 : decode cX9_readAddress 21 = .ok (.ifCond .ge 12, 3) := by decide +kernel
theorem dX9_readAddress_24 : decode cX9_readAddress 24 = .ok (.aload_n 0, 1) := by decide +kernel
theorem dX9_readAddress_25 : decode cX9_readAddress 25 = .ok (.getfield 25, 3) := by decide +kernel
theorem dX9_readAddress_28 : decode cX9_readAddress 28 = .ok (.iconst 2, 1) := by decide +kernel
theorem dX9_readAddress_29 : decode cX9_readAddress 29 = .ok (.iload_n 1, 1) := by decide +kernel
theorem dX9_readAddress_30 : decode cX9_readAddress 30 = .ok (.invokevirtual 107, 3) := by decide +kernel
theorem dX9_readAddress_33 : decode cX9_readAddress 33 = .ok (.lload_n 2, 1) := by decide +kernel
theorem dX9_readAddress_34 : decode cX9_readAddress 34 = .ok (.lreturn, 1) := by decide +kernel
theorem dX9_readToldText_0 : decode cX9_readToldText 0 = .ok (.aload_n 0, 1) := by decide +kernel
theorem dX9_readToldText_1 : decode cX9_readToldText 1 = .ok (.getfield 25, 3) := by decide +kernel
theorem dX9_readToldText_4 : decode cX9_readToldText 4 = .ok (.invokevirtual 78, 3) := by decide +kernel
theorem dX9_readToldText_7 : decode cX9_readToldText 7 = .ok (.istore_n 1, 1) := by decide +kernel
theorem dX9_readToldText_8 : decode cX9_readToldText 8 = .ok (.aload_n 0, 1) := by decide +kernel
theorem dX9_readToldText_9 : decode cX9_readToldText 9 = .ok (.getfield 25, 3) := by decide +kernel
theorem dX9_readToldText_12 : decode cX9_readToldText 12 = .ok (.iconst 4, 1) := by decide +kernel
theorem dX9_readToldText_13 : decode cX9_readToldText 13 = .ok (.invokevirtual 114, 3) := by decide +kernel
theorem dX9_readToldText_16 : decode cX9_readToldText 16 = .ok (.lstore_n 2, 1) := by decide +kernel
theorem dX9_readToldText_17 : decode cX9_readToldText 17 = .ok (.aload_n 0, 1) := by decide +kernel
theorem dX9_readToldText_18 : decode cX9_readToldText 18 = .ok (.getfield 29, 3) := by decide +kernel
theorem dX9_readToldText_21 : decode cX9_readToldText 21 = .ok (.iconst 4, 1) := by decide +kernel
theorem dX9_readToldText_22 : decode cX9_readToldText 22 = .ok (.invokevirtual 57, 3) := by decide +kernel
theorem dX9_readToldText_25 : decode cX9_readToldText 25 = .ok (.istore 4, 2) := by decide +kernel
theorem dX9_readToldText_27 : decode cX9_readToldText 27 = .ok (.aload_n 0, 1) := by decide +kernel
theorem dX9_readToldText_28 : decode cX9_readToldText 28 = .ok (.aload_n 0, 1) := by decide +kernel
theorem dX9_readToldText_29 : decode cX9_readToldText 29 = .ok (.getfield 25, 3) := by decide +kernel
theorem dX9_readToldText_32 : decode cX9_readToldText 32 = .ok (.iload 4, 2) := by decide +kernel
theorem dX9_readToldText_34 : decode cX9_readToldText 34 = .ok (.aload_n 0, 1) := by decide +kernel
theorem dX9_readToldText_35 : decode cX9_readToldText 35 = .ok (.getfield 29, 3) := by decide +kernel
theorem dX9_readToldText_38 : decode cX9_readToldText 38 = .ok (.iconst 4, 1) := by decide +kernel
theorem dX9_readToldText_39 : decode cX9_readToldText 39 = .ok (.invokevirtual 51, 3) := by decide +kernel
theorem dX9_readToldText_42 : decode cX9_readToldText 42 = .ok (.lload_n 2, 1) := by decide +kernel
theorem dX9_readToldText_43 : decode cX9_readToldText 43 = .ok (.iload_n 1, 1) := by decide +kernel
theorem dX9_readToldText_44 : decode cX9_readToldText 44 = .ok (.invokevirtual 203, 3) := by decide +kernel
theorem dX9_readToldText_47 : decode cX9_readToldText 47 = .ok (.putfield 191, 3) := by decide +kernel
theorem dX9_readToldText_50 : decode cX9_readToldText 50 = .ok (.aload_n 0, 1) := by decide +kernel
theorem dX9_readToldText_51 : decode cX9_readToldText 51 = .ok (.aload_n 0, 1) := by decide +kernel
theorem dX9_readToldText_52 : decode cX9_readToldText 52 = .ok (.getfield 25, 3) := by decide +kernel
theorem dX9_readToldText_55 : decode cX9_readToldText 55 = .ok (.invokevirtual 64, 3) := by decide +kernel
theorem dX9_readToldText_58 : decode cX9_readToldText 58 = .ok (.ifCond .eq 11, 3) := by decide +kernel
theorem dX9_readToldText_61 : decode cX9_readToldText 61 = .ok (.iload 4, 2) := by decide +kernel
theorem dX9_readToldText_63 : decode cX9_readToldText 63 = .ok (.lload_n 2, 1) := by decide +kernel
theorem dX9_readToldText_64 : decode cX9_readToldText 64 = .ok (.l2i, 1) := by decide +kernel
theorem dX9_readToldText_65 : decode cX9_readToldText 65 = .ok (.iadd, 1) := by decide +kernel
theorem dX9_readToldText_66 : decode cX9_readToldText 66 = .ok (.goto 4, 3) := by decide +kernel
theorem dX9_readToldText_69 : decode cX9_readToldText 69 = .ok (.iconst (-1), 1) := by decide +kernel
theorem dX9_readToldText_70 : decode cX9_readToldText 70 = .ok (.putfield 185, 3) := by decide +kernel
theorem dX9_readToldText_73 : decode cX9_readToldText 73 = .ok (.aload_n 0, 1) := by decide +kernel
theorem dX9_readToldText_74 : decode cX9_readToldText 74 = .ok (.getfield 185, 3) := by decide +kernel
theorem dX9_readToldText_77 : decode cX9_readToldText 77 = .ok (.i2l, 1) := by decide +kernel
theorem dX9_readToldText_78 : decode cX9_readToldText 78 = .ok (.lreturn, 1) := by decide +kernel
theorem dX9_readReference_0 : decode cX9_readReference 0 = .ok (.aload_n 0, 1) := by decide +kernel
theorem dX9_readReference_1 : decode cX9_readReference 1 = .ok (.getfield 25, 3) := by decide +kernel
theorem dX9_readReference_4 : decode cX9_readReference 4 = .ok (.invokevirtual 78, 3) := by decide +kernel
theorem dX9_readReference_7 : decode cX9_readReference 7 = .ok (.istore_n 1, 1) := by decide +kernel
theorem dX9_readReference_8 : decode cX9_readReference 8 = .ok (.aload_n 0, 1) := by decide +kernel
theorem dX9_readReference_9 : decode cX9_readReference 9 = .ok (.getfield 60, 3) := by decide +kernel
theorem dX9_readReference_12 : decode cX9_readReference 12 = .ok (.i2l, 1) := by decide +kernel
theorem dX9_readReference_13 : decode cX9_readReference 13 = .ok (.aload_n 0, 1) := by decide +kernel
theorem dX9_readReference_14 : decode cX9_readReference 14 = .ok (.getfield 25, 3) := by decide +kernel
theorem dX9_readReference_17 : decode cX9_readReference 17 = .ok (.iconst 4, 1) := by decide +kernel
theorem dX9_readReference_18 : decode cX9_readReference 18 = .ok (.invokevirtual 114, 3) := by decide +kernel
theorem dX9_readReference_21 : decode cX9_readReference 21 = .ok (.ladd, 1) := by decide +kernel
theorem dX9_readReference_22 : decode cX9_readReference 22 = .ok (.lstore_n 2, 1) := by decide +kernel
theorem dX9_readReference_23 : decode cX9_readReference 23 = .ok (.aload_n 0, 1) := by decide +kernel
theorem dX9_readReference_24 : decode cX9_readReference 24 = .ok (.getfield 25, 3) := by decide +kernel
theorem dX9_readReference_27 : decode cX9_readReference 27 = .ok (.invokevirtual 64, 3) := by decide +kernel
theorem dX9_readReference_30 : decode cX9_readReference 30 = .ok (.ifCond .eq 25, 3) := by decide +kernel
theorem dX9_readReference_33 : decode cX9_readReference 33 = .ok (.aload_n 0, 1) := by decide +kernel
theorem dX9_readReference_34 : decode cX9_readReference 34 = .ok (.getfield 22, 3) := by decide +kernel
theorem dX9_readReference_37 : decode cX9_readReference 37 = .ok (.aload_n 0, 1) := by decide +kernel
theorem dX9_readReference_38 : decode cX9_readReference 38 = .ok (.getfield 125, 3) := by decide +kernel
theorem dX9_readReference_41 : decode cX9_readReference 41 = .ok (.iload_n 1, 1) := by decide +kernel
theorem dX9_readReference_42 : decode cX9_readReference 42 = .ok (.invokestatic 175, 3) := by decide +kernel
theorem dX9_readReference_45 : decode cX9_readReference 45 = .ok (.aload_n 0, 1) := by decide +kernel
theorem dX9_readReference_46 : decode cX9_readReference 46 = .ok (.dup, 1) := by decide +kernel
theorem dX9_readReference_47 : decode cX9_readReference 47 = .ok (.getfield 125, 3) := by decide +kernel
theorem dX9_readReference_50 : decode cX9_readReference 50 = .ok (.iconst 1, 1) := by decide +kernel
theorem dX9_readReference_51 : decode cX9_readReference 51 = .ok (.iadd, 1) := by decide +kernel
theorem dX9_readReference_52 : decode cX9_readReference 52 = .ok (.putfield 125, 3) := by decide +kernel
theorem dX9_readReference_55 : decode cX9_readReference 55 = .ok (.lload_n 2, 1) := by decide +kernel
theorem dX9_readReference_56 : decode cX9_readReference 56 = .ok (.lreturn, 1) := by decide +kernel
theorem dX9_skipBytes_0 : decode cX9_skipBytes 0 = .ok (.aload_n 0, 1) := by decide +kernel
theorem dX9_skipBytes_1 : decode cX9_skipBytes 1 = .ok (.getfield 25, 3) := by decide +kernel
theorem dX9_skipBytes_4 : decode cX9_skipBytes 4 = .ok (.invokevirtual 78, 3) := by decide +kernel
theorem dX9_skipBytes_7 : decode cX9_skipBytes 7 = .ok (.istore_n 1, 1) := by decide +kernel
theorem dX9_skipBytes_8 : decode cX9_skipBytes 8 = .ok (.aload_n 0, 1) := by decide +kernel
theorem dX9_skipBytes_9 : decode cX9_skipBytes 9 = .ok (.getfield 25, 3) := by decide +kernel
theorem dX9_skipBytes_12 : decode cX9_skipBytes 12 = .ok (.invokevirtual 128, 3) := by decide +kernel
theorem dX9_skipBytes_15 : decode cX9_skipBytes 15 = .ok (.lstore_n 2, 1) := by decide +kernel
theorem dX9_skipBytes_16 : decode cX9_skipBytes 16 = .ok (.aload_n 0, 1) := by decide +kernel
theorem dX9_skipBytes_17 : decode cX9_skipBytes 17 = .ok (.getfield 25, 3) := by decide +kernel
theorem dX9_skipBytes_20 : decode cX9_skipBytes 20 = .ok (.lload_n 2, 1) := by decide +kernel
theorem dX9_skipBytes_21 : decode cX9_skipBytes 21 = .ok (.invokevirtual 207, 3) := by decide +kernel
theorem dX9_skipBytes_24 : decode cX9_skipBytes 24 = .ok (.ifCond .ne 14, 3) := by decide +kernel
theorem dX9_skipBytes_27 : decode cX9_skipBytes 27 = .ok (.aload_n 0, 1) := by decide +kernel
theorem dX9_skipBytes_28 : decode cX9_skipBytes 28 = .ok (.getfield 25, 3) := by decide +kernel
theorem dX9_skipBytes_31 : decode cX9_skipBytes 31 = .ok (.iconst 1, 1) := by decide +kernel
theorem dX9_skipBytes_32 : decode cX9_skipBytes 32 = .ok (.iload_n 1, 1) := by decide +kernel
theorem dX9_skipBytes_33 : decode cX9_skipBytes 33 = .ok (.invokevirtual 107, 3) := by decide +kernel
theorem dX9_skipBytes_36 : decode cX9_skipBytes 36 = .ok (.lconst 0, 1) := by decide +kernel
theorem dX9_skipBytes_37 : decode cX9_skipBytes 37 = .ok (.lreturn, 1) := by decide +kernel
theorem dX9_skipBytes_38 : decode cX9_skipBytes 38 = .ok (.aload_n 0, 1) := by decide +kernel
theorem dX9_skipBytes_39 : decode cX9_skipBytes 39 = .ok (.getfield 25, 3) := by decide +kernel
theorem dX9_skipBytes_42 : decode cX9_skipBytes 42 = .ok (.aload_n 0, 1) := by decide +kernel
theorem dX9_skipBytes_43 : decode cX9_skipBytes 43 = .ok (.getfield 25, 3) := by decide +kernel
theorem dX9_skipBytes_46 : decode cX9_skipBytes 46 = .ok (.invokevirtual 78, 3) := by decide +kernel
theorem dX9_skipBytes_49 : decode cX9_skipBytes 49 = .ok (.lload_n 2, 1) := by decide +kernel
theorem dX9_skipBytes_50 : decode cX9_skipBytes 50 = .ok (.l2i, 1) := by decide +kernel
theorem dX9_skipBytes_51 : decode cX9_skipBytes 51 = .ok (.iadd, 1) := by decide +kernel
theorem dX9_skipBytes_52 : decode cX9_skipBytes 52 = .ok (.aload_n 0, 1) := by decide +kernel
theorem dX9_skipBytes_53 : decode cX9_skipBytes 53 = .ok (.getfield 25, 3) := by decide +kernel
theorem dX9_skipBytes_56 : decode cX9_skipBytes 56 = .ok (.invokevirtual 82, 3) := by decide +kernel
theorem dX9_skipBytes_59 : decode cX9_skipBytes 59 = .ok (.invokevirtual 70, 3) := by decide +kernel
theorem dX9_skipBytes_62 : decode cX9_skipBytes 62 = .ok (.lload_n 2, 1) := by decide +kernel
theorem dX9_skipBytes_63 : decode cX9_skipBytes 63 = .ok (.lreturn, 1) := by decide +kernel
theorem dX9_isCountForm_0 : decode cX9_isCountForm 0 = .ok (.iload_n 0, 1) := by decide +kernel
theorem dX9_isCountForm_1 : decode cX9_isCountForm 1 = .ok (.bipush 11, 2) := by decide +kernel
theorem dX9_isCountForm_3 : decode cX9_isCountForm 3 = .ok (.if_icmp .eq 32, 3) := by decide +kernel
theorem dX9_isCountForm_6 : decode cX9_isCountForm 6 = .ok (.iload_n 0, 1) := by decide +kernel
theorem dX9_isCountForm_7 : decode cX9_isCountForm 7 = .ok (.iconst 5, 1) := by decide +kernel
theorem dX9_isCountForm_8 : decode cX9_isCountForm 8 = .ok (.if_icmp .eq 27, 3) := by decide +kernel
theorem dX9_isCountForm_11 : decode cX9_isCountForm 11 = .ok (.iload_n 0, 1) := by decide +kernel
theorem dX9_isCountForm_12 : decode cX9_isCountForm 12 = .ok (.bipush 6, 2) := by decide +kernel
theorem dX9_isCountForm_14 : decode cX9_isCountForm 14 = .ok (.if_icmp .eq 21, 3) := by decide +kernel
theorem dX9_isCountForm_17 : decode cX9_isCountForm 17 = .ok (.iload_n 0, 1) := by decide +kernel
theorem dX9_isCountForm_18 : decode cX9_isCountForm 18 = .ok (.bipush 7, 2) := by decide +kernel
theorem dX9_isCountForm_20 : decode cX9_isCountForm 20 = .ok (.if_icmp .eq 15, 3) := by decide +kernel
theorem dX9_isCountForm_23 : decode cX9_isCountForm 23 = .ok (.iload_n 0, 1) := by decide +kernel
theorem dX9_isCountForm_24 : decode cX9_isCountForm 24 = .ok (.bipush 15, 2) := by decide +kernel
theorem dX9_isCountForm_26 : decode cX9_isCountForm 26 = .ok (.if_icmp .eq 9, 3) := by decide +kernel
theorem dX9_isCountForm_29 : decode cX9_isCountForm 29 = .ok (.iload_n 0, 1) := by decide +kernel
theorem dX9_isCountForm_30 : decode cX9_isCountForm 30 = .ok (.bipush 33, 2) := by decide +kernel
theorem dX9_isCountForm_32 : decode cX9_isCountForm 32 = .ok (.if_icmp .ne 7, 3) := by decide +kernel
theorem dX9_isCountForm_35 : decode cX9_isCountForm 35 = .ok (.iconst 1, 1) := by decide +kernel
theorem dX9_isCountForm_36 : decode cX9_isCountForm 36 = .ok (.goto 4, 3) := by decide +kernel
theorem dX9_isCountForm_39 : decode cX9_isCountForm 39 = .ok (.iconst 0, 1) := by decide +kernel
theorem dX9_isCountForm_40 : decode cX9_isCountForm 40 = .ok (.ireturn, 1) := by decide +kernel
theorem dX9_keepValue_0 : decode cX9_keepValue 0 = .ok (.lload_n 3, 1) := by decide +kernel
theorem dX9_keepValue_1 : decode cX9_keepValue 1 = .ok (.ldc2_w 211, 3) := by decide +kernel
theorem dX9_keepValue_4 : decode cX9_keepValue 4 = .ok (.lcmp, 1) := by decide +kernel
theorem dX9_keepValue_5 : decode cX9_keepValue 5 = .ok (.ifCond .ne 33, 3) := by decide +kernel
theorem dX9_keepValue_8 : decode cX9_keepValue 8 = .ok (.iload 5, 2) := by decide +kernel
theorem dX9_keepValue_10 : decode cX9_keepValue 10 = .ok (.bipush 8, 2) := by decide +kernel
theorem dX9_keepValue_12 : decode cX9_keepValue 12 = .ok (.if_icmp .eq 10, 3) := by decide +kernel
theorem dX9_keepValue_15 : decode cX9_keepValue 15 = .ok (.iload 5, 2) := by decide +kernel
theorem dX9_keepValue_17 : decode cX9_keepValue 17 = .ok (.bipush 14, 2) := by decide +kernel
theorem dX9_keepValue_19 : decode cX9_keepValue 19 = .ok (.if_icmp .ne 19, 3) := by decide +kernel
theorem dX9_keepValue_22 : decode cX9_keepValue 22 = .ok (.aload_n 1, 1) := by decide +kernel
theorem dX9_keepValue_23 : decode cX9_keepValue 23 = .ok (.iload_n 2, 1) := by decide +kernel
theorem dX9_keepValue_24 : decode cX9_keepValue 24 = .ok (.aload_n 0, 1) := by decide +kernel
theorem dX9_keepValue_25 : decode cX9_keepValue 25 = .ok (.getfield 185, 3) := by decide +kernel
theorem dX9_keepValue_28 : decode cX9_keepValue 28 = .ok (.aload_n 0, 1) := by decide +kernel
theorem dX9_keepValue_29 : decode cX9_keepValue 29 = .ok (.getfield 191, 3) := by decide +kernel
theorem dX9_keepValue_32 : decode cX9_keepValue 32 = .ok (.invokevirtual 213, 3) := by decide +kernel
theorem dX9_keepValue_35 : decode cX9_keepValue 35 = .ok (.goto 48, 3) := by decide +kernel
theorem dX9_keepValue_38 : decode cX9_keepValue 38 = .ok (.lload_n 3, 1) := by decide +kernel
theorem dX9_keepValue_39 : decode cX9_keepValue 39 = .ok (.ldc2_w 217, 3) := by decide +kernel
theorem dX9_keepValue_42 : decode cX9_keepValue 42 = .ok (.lcmp, 1) := by decide +kernel
theorem dX9_keepValue_43 : decode cX9_keepValue 43 = .ok (.ifCond .ne 16, 3) := by decide +kernel
theorem dX9_keepValue_46 : decode cX9_keepValue 46 = .ok (.aload_n 0, 1) := by decide +kernel
theorem dX9_keepValue_47 : decode cX9_keepValue 47 = .ok (.aload_n 1, 1) := by decide +kernel
theorem dX9_keepValue_48 : decode cX9_keepValue 48 = .ok (.iload_n 2, 1) := by decide +kernel
theorem dX9_keepValue_49 : decode cX9_keepValue 49 = .ok (.iload 5, 2) := by decide +kernel
theorem dX9_keepValue_51 : decode cX9_keepValue 51 = .ok (.lload 6, 2) := by decide +kernel
theorem dX9_keepValue_53 : decode cX9_keepValue 53 = .ok (.invokevirtual 219, 3) := by decide +kernel
theorem dX9_keepValue_56 : decode cX9_keepValue 56 = .ok (.goto 27, 3) := by decide +kernel
theorem dX9_keepValue_59 : decode cX9_keepValue 59 = .ok (.lload_n 3, 1) := by decide +kernel
theorem dX9_keepValue_60 : decode cX9_keepValue 60 = .ok (.iload 5, 2) := by decide +kernel
theorem dX9_keepValue_62 : decode cX9_keepValue 62 = .ok (.invokestatic 222, 3) := by decide +kernel
theorem dX9_keepValue_65 : decode cX9_keepValue 65 = .ok (.istore 8, 2) := by decide +kernel
theorem dX9_keepValue_67 : decode cX9_keepValue 67 = .ok (.iload 8, 2) := by decide +kernel
theorem dX9_keepValue_69 : decode cX9_keepValue 69 = .ok (.iconst (-1), 1) := by decide +kernel
theorem dX9_keepValue_70 : decode cX9_keepValue 70 = .ok (.if_icmp .eq 13, 3) := by decide +kernel
theorem dX9_keepValue_73 : decode cX9_keepValue 73 = .ok (.aload_n 1, 1) := by decide +kernel
theorem dX9_keepValue_74 : decode cX9_keepValue 74 = .ok (.iload_n 2, 1) := by decide +kernel
theorem dX9_keepValue_75 : decode cX9_keepValue 75 = .ok (.iload 8, 2) := by decide +kernel
theorem dX9_keepValue_77 : decode cX9_keepValue 77 = .ok (.lload 6, 2) := by decide +kernel
theorem dX9_keepValue_79 : decode cX9_keepValue 79 = .ok (.invokevirtual 226, 3) := by decide +kernel
theorem dX9_keepValue_82 : decode cX9_keepValue 82 = .ok (.pop, 1) := by decide +kernel
theorem dX9_keepValue_83 : decode cX9_keepValue 83 = .ok (.return_, 1) := by decide +kernel
theorem dX9_keepHigh_0 : decode cX9_keepHigh 0 = .ok (.iload_n 3, 1) := by decide +kernel
theorem dX9_keepHigh_1 : decode cX9_keepHigh 1 = .ok (.iconst 1, 1) := by decide +kernel
theorem dX9_keepHigh_2 : decode cX9_keepHigh 2 = .ok (.if_icmp .ne 24, 3) := by decide +kernel
theorem dX9_keepHigh_5 : decode cX9_keepHigh 5 = .ok (.aload_n 1, 1) := by decide +kernel
theorem dX9_keepHigh_6 : decode cX9_keepHigh 6 = .ok (.iload_n 2, 1) := by decide +kernel
theorem dX9_keepHigh_7 : decode cX9_keepHigh 7 = .ok (.iconst 3, 1) := by decide +kernel
theorem dX9_keepHigh_8 : decode cX9_keepHigh 8 = .ok (.invokevirtual 230, 3) := by decide +kernel
theorem dX9_keepHigh_11 : decode cX9_keepHigh 11 = .ok (.ifCond .ne 15, 3) := by decide +kernel
theorem dX9_keepHigh_14 : decode cX9_keepHigh 14 = .ok (.aload_n 1, 1) := by decide +kernel
theorem dX9_keepHigh_15 : decode cX9_keepHigh 15 = .ok (.iload_n 2, 1) := by decide +kernel
theorem dX9_keepHigh_16 : decode cX9_keepHigh 16 = .ok (.iconst 2, 1) := by decide +kernel
theorem dX9_keepHigh_17 : decode cX9_keepHigh 17 = .ok (.lload 4, 2) := by decide +kernel
theorem dX9_keepHigh_19 : decode cX9_keepHigh 19 = .ok (.invokevirtual 226, 3) := by decide +kernel
theorem dX9_keepHigh_22 : decode cX9_keepHigh 22 = .ok (.pop, 1) := by decide +kernel
theorem dX9_keepHigh_23 : decode cX9_keepHigh 23 = .ok (.goto 28, 3) := by decide +kernel
theorem dX9_keepHigh_26 : decode cX9_keepHigh 26 = .ok (.iload_n 3, 1) := by decide +kernel
theorem dX9_keepHigh_27 : decode cX9_keepHigh 27 = .ok (.invokestatic 234, 3) := by decide +kernel
theorem dX9_keepHigh_30 : decode cX9_keepHigh 30 = .ok (.ifCond .eq 21, 3) := by decide +kernel
theorem dX9_keepHigh_33 : decode cX9_keepHigh 33 = .ok (.aload_n 1, 1) := by decide +kernel
theorem dX9_keepHigh_34 : decode cX9_keepHigh 34 = .ok (.iload_n 2, 1) := by decide +kernel
theorem dX9_keepHigh_35 : decode cX9_keepHigh 35 = .ok (.iconst 2, 1) := by decide +kernel
theorem dX9_keepHigh_36 : decode cX9_keepHigh 36 = .ok (.invokevirtual 230, 3) := by decide +kernel
theorem dX9_keepHigh_39 : decode cX9_keepHigh 39 = .ok (.ifCond .ne 12, 3) := by decide +kernel
theorem dX9_keepHigh_42 : decode cX9_keepHigh 42 = .ok (.aload_n 1, 1) := by decide +kernel
theorem dX9_keepHigh_43 : decode cX9_keepHigh 43 = .ok (.iload_n 2, 1) := by decide +kernel
theorem dX9_keepHigh_44 : decode cX9_keepHigh 44 = .ok (.iconst 3, 1) := by decide +kernel
theorem dX9_keepHigh_45 : decode cX9_keepHigh 45 = .ok (.lload 4, 2) := by decide +kernel
theorem dX9_keepHigh_47 : decode cX9_keepHigh 47 = .ok (.invokevirtual 226, 3) := by decide +kernel
theorem dX9_keepHigh_50 : decode cX9_keepHigh 50 = .ok (.pop, 1) := by decide +kernel
theorem dX9_keepHigh_51 : decode cX9_keepHigh 51 = .ok (.return_, 1) := by decide +kernel
theorem dX9_columnOf_0 : decode cX9_columnOf 0 = .ok (.iload_n 2, 1) := by decide +kernel
theorem dX9_columnOf_1 : decode cX9_columnOf 1 = .ok (.iconst 1, 1) := by decide +kernel
theorem dX9_columnOf_2 : decode cX9_columnOf 2 = .ok (.if_icmp .ne 17, 3) := by decide +kernel
theorem dX9_columnOf_5 : decode cX9_columnOf 5 = .ok (.lload_n 0, 1) := by decide +kernel
theorem dX9_columnOf_6 : decode cX9_columnOf 6 = .ok (.ldc2_w 237, 3) := by decide +kernel
theorem dX9_columnOf_9 : decode cX9_columnOf 9 = .ok (.lcmp, 1) := by decide +kernel
theorem dX9_columnOf_10 : decode cX9_columnOf 10 = .ok (.ifCond .ne 7, 3) := by decide +kernel
theorem dX9_columnOf_13 : decode cX9_columnOf 13 = .ok (.iconst 1, 1) := by decide +kernel
theorem dX9_columnOf_14 : decode cX9_columnOf 14 = .ok (.goto 4, 3) := by decide +kernel
theorem dX9_columnOf_17 : decode cX9_columnOf 17 = .ok (.iconst (-1), 1) := by decide +kernel
theorem dX9_columnOf_18 : decode cX9_columnOf 18 = .ok (.ireturn, 1) := by decide +kernel
theorem dX9_columnOf_19 : decode cX9_columnOf 19 = .ok (.iload_n 2, 1) := by decide +kernel
theorem dX9_columnOf_20 : decode cX9_columnOf 20 = .ok (.bipush 19, 2) := by decide +kernel
theorem dX9_columnOf_22 : decode cX9_columnOf 22 = .ok (.if_icmp .ne 13, 3) := by decide +kernel
theorem dX9_columnOf_25 : decode cX9_columnOf 25 = .ok (.lload_n 0, 1) := by decide +kernel
theorem dX9_columnOf_26 : decode cX9_columnOf 26 = .ok (.ldc2_w 239, 3) := by decide +kernel
theorem dX9_columnOf_29 : decode cX9_columnOf 29 = .ok (.lcmp, 1) := by decide +kernel
theorem dX9_columnOf_30 : decode cX9_columnOf 30 = .ok (.ifCond .ne 5, 3) := by decide +kernel
theorem dX9_columnOf_33 : decode cX9_columnOf 33 = .ok (.iconst 5, 1) := by decide +kernel
theorem dX9_columnOf_34 : decode cX9_columnOf 34 = .ok (.ireturn, 1) := by decide +kernel
theorem dX9_columnOf_35 : decode cX9_columnOf 35 = .ok (.iload_n 2, 1) := by decide +kernel
theorem dX9_columnOf_36 : decode cX9_columnOf 36 = .ok (.bipush 19, 2) := by decide +kernel
theorem dX9_columnOf_38 : decode cX9_columnOf 38 = .ok (.if_icmp .ne 14, 3) := by decide +kernel
theorem dX9_columnOf_41 : decode cX9_columnOf 41 = .ok (.lload_n 0, 1) := by decide +kernel
theorem dX9_columnOf_42 : decode cX9_columnOf 42 = .ok (.ldc2_w 241, 3) := by decide +kernel
theorem dX9_columnOf_45 : decode cX9_columnOf 45 = .ok (.lcmp, 1) := by decide +kernel
theorem dX9_columnOf_46 : decode cX9_columnOf 46 = .ok (.ifCond .ne 6, 3) := by decide +kernel
theorem dX9_columnOf_49 : decode cX9_columnOf 49 = .ok (.bipush 6, 2) := by decide +kernel
theorem dX9_columnOf_51 : decode cX9_columnOf 51 = .ok (.ireturn, 1) := by decide +kernel
theorem dX9_columnOf_52 : decode cX9_columnOf 52 = .ok (.iload_n 2, 1) := by decide +kernel
theorem dX9_columnOf_53 : decode cX9_columnOf 53 = .ok (.bipush 23, 2) := by decide +kernel
theorem dX9_columnOf_55 : decode cX9_columnOf 55 = .ok (.if_icmp .ne 13, 3) := by decide +kernel
theorem dX9_columnOf_58 : decode cX9_columnOf 58 = .ok (.lload_n 0, 1) := by decide +kernel
theorem dX9_columnOf_59 : decode cX9_columnOf 59 = .ok (.ldc2_w 243, 3) := by decide +kernel
theorem dX9_columnOf_62 : decode cX9_columnOf 62 = .ok (.lcmp, 1) := by decide +kernel
theorem dX9_columnOf_63 : decode cX9_columnOf 63 = .ok (.ifCond .ne 5, 3) := by decide +kernel
theorem dX9_columnOf_66 : decode cX9_columnOf 66 = .ok (.iconst 4, 1) := by decide +kernel
theorem dX9_columnOf_67 : decode cX9_columnOf 67 = .ok (.ireturn, 1) := by decide +kernel
theorem dX9_columnOf_68 : decode cX9_columnOf 68 = .ok (.iload_n 2, 1) := by decide +kernel
theorem dX9_columnOf_69 : decode cX9_columnOf 69 = .ok (.bipush 23, 2) := by decide +kernel
theorem dX9_columnOf_71 : decode cX9_columnOf 71 = .ok (.if_icmp .ne 14, 3) := by decide +kernel
theorem dX9_columnOf_74 : decode cX9_columnOf 74 = .ok (.lload_n 0, 1) := by decide +kernel
theorem dX9_columnOf_75 : decode cX9_columnOf 75 = .ok (.ldc2_w 245, 3) := by decide +kernel
theorem dX9_columnOf_78 : decode cX9_columnOf 78 = .ok (.lcmp, 1) := by decide +kernel
theorem dX9_columnOf_79 : decode cX9_columnOf 79 = .ok (.ifCond .ne 6, 3) := by decide +kernel
theorem dX9_columnOf_82 : decode cX9_columnOf 82 = .ok (.bipush 9, 2) := by decide +kernel
theorem dX9_columnOf_84 : decode cX9_columnOf 84 = .ok (.ireturn, 1) := by decide +kernel
theorem dX9_columnOf_85 : decode cX9_columnOf 85 = .ok (.iload_n 2, 1) := by decide +kernel
theorem dX9_columnOf_86 : decode cX9_columnOf 86 = .ok (.invokestatic 234, 3) := by decide +kernel
theorem dX9_columnOf_89 : decode cX9_columnOf 89 = .ok (.ifCond .eq 14, 3) := by decide +kernel
theorem dX9_columnOf_92 : decode cX9_columnOf 92 = .ok (.lload_n 0, 1) := by decide +kernel
theorem dX9_columnOf_93 : decode cX9_columnOf 93 = .ok (.ldc2_w 247, 3) := by decide +kernel
theorem dX9_columnOf_96 : decode cX9_columnOf 96 = .ok (.lcmp, 1) := by decide +kernel
theorem dX9_columnOf_97 : decode cX9_columnOf 97 = .ok (.ifCond .ne 6, 3) := by decide +kernel
theorem dX9_columnOf_100 : decode cX9_columnOf 100 = .ok (.bipush 7, 2) := by decide +kernel
theorem dX9_columnOf_102 : decode cX9_columnOf 102 = .ok (.ireturn, 1) := by decide +kernel
theorem dX9_columnOf_103 : decode cX9_columnOf 103 = .ok (.iload_n 2, 1) := by decide +kernel
theorem dX9_columnOf_104 : decode cX9_columnOf 104 = .ok (.invokestatic 234, 3) := by decide +kernel
theorem dX9_columnOf_107 : decode cX9_columnOf 107 = .ok (.ifCond .eq 16, 3) := by decide +kernel
theorem dX9_columnOf_110 : decode cX9_columnOf 110 = .ok (.lload_n 0, 1) := by decide +kernel
theorem dX9_columnOf_111 : decode cX9_columnOf 111 = .ok (.ldc2_w 249, 3) := by decide +kernel
theorem dX9_columnOf_114 : decode cX9_columnOf 114 = .ok (.lcmp, 1) := by decide +kernel
theorem dX9_columnOf_115 : decode cX9_columnOf 115 = .ok (.ifCond .ne 8, 3) := by decide +kernel
theorem dX9_columnOf_118 : decode cX9_columnOf 118 = .ok (.bipush 8, 2) := by decide +kernel
theorem dX9_columnOf_120 : decode cX9_columnOf 120 = .ok (.goto 4, 3) := by decide +kernel
theorem dX9_columnOf_123 : decode cX9_columnOf 123 = .ok (.iconst (-1), 1) := by decide +kernel
theorem dX9_columnOf_124 : decode cX9_columnOf 124 = .ok (.ireturn, 1) := by decide +kernel
theorem dX9_settleReferences_0 : decode cX9_settleReferences 0 = .ok (.iconst 0, 1) := by decide +kernel
theorem dX9_settleReferences_1 : decode cX9_settleReferences 1 = .ok (.istore_n 3, 1) := by decide +kernel
theorem dX9_settleReferences_2 : decode cX9_settleReferences 2 = .ok (.iload_n 3, 1) := by decide +kernel
theorem dX9_settleReferences_3 : decode cX9_settleReferences 3 = .ok (.aload_n 0, 1) := by decide +kernel
theorem dX9_settleReferences_4 : decode cX9_settleReferences 4 = .ok (.getfield 125, 3) := by decide +kernel
theorem dX9_settleReferences_7 : decode cX9_settleReferences 7 = .ok (.if_icmp .ge 64, 3) := by decide +kernel
theorem dX9_settleReferences_10 : decode cX9_settleReferences 10 = .ok (.aload_n 0, 1) := by decide +kernel
theorem dX9_settleReferences_11 : decode cX9_settleReferences 11 = .ok (.getfield 25, 3) := by decide +kernel
theorem dX9_settleReferences_14 : decode cX9_settleReferences 14 = .ok (.invokevirtual 64, 3) := by decide +kernel
theorem dX9_settleReferences_17 : decode cX9_settleReferences 17 = .ok (.ifCond .eq 54, 3) := by decide +kernel
theorem dX9_settleReferences_20 : decode cX9_settleReferences 20 = .ok (.aload_n 0, 1) := by decide +kernel
theorem dX9_settleReferences_21 : decode cX9_settleReferences 21 = .ok (.getfield 22, 3) := by decide +kernel
theorem dX9_settleReferences_24 : decode cX9_settleReferences 24 = .ok (.iload_n 3, 1) := by decide +kernel
theorem dX9_settleReferences_25 : decode cX9_settleReferences 25 = .ok (.invokestatic 140, 3) := by decide +kernel
theorem dX9_settleReferences_28 : decode cX9_settleReferences 28 = .ok (.istore 4, 2) := by decide +kernel
theorem dX9_settleReferences_30 : decode cX9_settleReferences 30 = .ok (.aload_n 1, 1) := by decide +kernel
theorem dX9_settleReferences_31 : decode cX9_settleReferences 31 = .ok (.aload_n 0, 1) := by decide +kernel
theorem dX9_settleReferences_32 : decode cX9_settleReferences 32 = .ok (.getfield 60, 3) := by decide +kernel
theorem dX9_settleReferences_35 : decode cX9_settleReferences 35 = .ok (.i2l, 1) := by decide +kernel
theorem dX9_settleReferences_36 : decode cX9_settleReferences 36 = .ok (.aload_n 0, 1) := by decide +kernel
theorem dX9_settleReferences_37 : decode cX9_settleReferences 37 = .ok (.getfield 25, 3) := by decide +kernel
theorem dX9_settleReferences_40 : decode cX9_settleReferences 40 = .ok (.iload 4, 2) := by decide +kernel
theorem dX9_settleReferences_42 : decode cX9_settleReferences 42 = .ok (.iconst 4, 1) := by decide +kernel
theorem dX9_settleReferences_43 : decode cX9_settleReferences 43 = .ok (.invokevirtual 251, 3) := by decide +kernel
theorem dX9_settleReferences_46 : decode cX9_settleReferences 46 = .ok (.ladd, 1) := by decide +kernel
theorem dX9_settleReferences_47 : decode cX9_settleReferences 47 = .ok (.iload_n 2, 1) := by decide +kernel
theorem dX9_settleReferences_48 : decode cX9_settleReferences 48 = .ok (.invokevirtual 254, 3) := by decide +kernel
theorem dX9_settleReferences_51 : decode cX9_settleReferences 51 = .ok (.iconst (-1), 1) := by decide +kernel
theorem dX9_settleReferences_52 : decode cX9_settleReferences 52 = .ok (.if_icmp .ne 13, 3) := by decide +kernel
theorem dX9_settleReferences_55 : decode cX9_settleReferences 55 = .ok (.aload_n 0, 1) := by decide +kernel
theorem dX9_settleReferences_56 : decode cX9_settleReferences 56 = .ok (.getfield 25, 3) := by decide +kernel
theorem dX9_settleReferences_59 : decode cX9_settleReferences 59 = .ok (.iconst 3, 1) := by decide +kernel
theorem dX9_settleReferences_60 : decode cX9_settleReferences 60 = .ok (.iload 4, 2) := by decide +kernel
theorem dX9_settleReferences_62 : decode cX9_settleReferences 62 = .ok (.invokevirtual 107, 3) := by decide +kernel
theorem dX9_settleReferences_65 : decode cX9_settleReferences 65 = .ok (.iinc 3 1, 3) := by decide +kernel
theorem dX9_settleReferences_68 : decode cX9_settleReferences 68 = .ok (.goto (-66), 3) := by decide +kernel
theorem dX9_settleReferences_71 : decode cX9_settleReferences 71 = .ok (.iload_n 2, 1) := by decide +kernel
theorem dX9_settleReferences_72 : decode cX9_settleReferences 72 = .ok (.istore_n 3, 1) := by decide +kernel
theorem dX9_settleReferences_73 : decode cX9_settleReferences 73 = .ok (.iload_n 3, 1) := by decide +kernel
theorem dX9_settleReferences_74 : decode cX9_settleReferences 74 = .ok (.aload_n 1, 1) := by decide +kernel
theorem dX9_settleReferences_75 : decode cX9_settleReferences 75 = .ok (.invokevirtual 85, 3) := by decide +kernel
theorem dX9_settleReferences_78 : decode cX9_settleReferences 78 = .ok (.if_icmp .ge 25, 3) := by decide +kernel
theorem dX9_settleReferences_81 : decode cX9_settleReferences 81 = .ok (.aload_n 0, 1) := by decide +kernel
theorem dX9_settleReferences_82 : decode cX9_settleReferences 82 = .ok (.getfield 25, 3) := by decide +kernel
theorem dX9_settleReferences_85 : decode cX9_settleReferences 85 = .ok (.invokevirtual 64, 3) := by decide +kernel
theorem dX9_settleReferences_88 : decode cX9_settleReferences 88 = .ok (.ifCond .eq 15, 3) := by decide +kernel
theorem dX9_settleReferences_91 : decode cX9_settleReferences 91 = .ok (.aload_n 1, 1) := by decide +kernel
theorem dX9_settleReferences_92 : decode cX9_settleReferences 92 = .ok (.iload_n 3, 1) := by decide +kernel
theorem dX9_settleReferences_93 : decode cX9_settleReferences 93 = .ok (.iload_n 2, 1) := by decide +kernel
theorem dX9_settleReferences_94 : decode cX9_settleReferences 94 = .ok (.invokevirtual 257, 3) := by decide +kernel
theorem dX9_settleReferences_97 : decode cX9_settleReferences 97 = .ok (.iinc 3 1, 3) := by decide +kernel
theorem dX9_settleReferences_100 : decode cX9_settleReferences 100 = .ok (.goto (-27), 3) := by decide +kernel
theorem dX9_settleReferences_103 : decode cX9_settleReferences 103 = .ok (.return_, 1) := by decide +kernel
theorem dX10_init_0 : decode cX10_init 0 = .ok (.aload_n 0, 1) := by decide +kernel
theorem dX10_init_1 : decode cX10_init 1 = .ok (.invokespecial 3, 3) := by decide +kernel
theorem dX10_init_4 : decode cX10_init 4 = .ok (.aload_n 0, 1) := by decide +kernel
theorem dX10_init_5 : decode cX10_init 5 = .ok (.bipush 20, 2) := by decide +kernel
theorem dX10_init_7 : decode cX10_init 7 = .ok (.newarray .int, 2) := by decide +kernel
theorem dX10_init_9 : decode cX10_init 9 = .ok (.putfield 9, 3) := by decide +kernel
theorem dX10_init_12 : decode cX10_init 12 = .ok (.aload_n 0, 1) := by decide +kernel
theorem dX10_init_13 : decode cX10_init 13 = .ok (.bipush 20, 2) := by decide +kernel
theorem dX10_init_15 : decode cX10_init 15 = .ok (.newarray .int, 2) := by decide +kernel
theorem dX10_init_17 : decode cX10_init 17 = .ok (.putfield 15, 3) := by decide +kernel
theorem dX10_init_20 : decode cX10_init 20 = .ok (.aload_n 0, 1) := by decide +kernel
theorem dX10_init_21 : decode cX10_init 21 = .ok (.bipush 20, 2) := by decide +kernel
theorem dX10_init_23 : decode cX10_init 23 = .ok (.newarray .int, 2) := by decide +kernel
theorem dX10_init_25 : decode cX10_init 25 = .ok (.putfield 18, 3) := by decide +kernel
theorem dX10_init_28 : decode cX10_init 28 = .ok (.aload_n 0, 1) := by decide +kernel
theorem dX10_init_29 : decode cX10_init 29 = .ok (.bipush 20, 2) := by decide +kernel
theorem dX10_init_31 : decode cX10_init 31 = .ok (.newarray .int, 2) := by decide +kernel
theorem dX10_init_33 : decode cX10_init 33 = .ok (.putfield 21, 3) := by decide +kernel
theorem dX10_init_36 : decode cX10_init 36 = .ok (.aload_n 0, 1) := by decide +kernel
theorem dX10_init_37 : decode cX10_init 37 = .ok (.bipush 40, 2) := by decide +kernel
theorem dX10_init_39 : decode cX10_init 39 = .ok (.newarray .int, 2) := by decide +kernel
theorem dX10_init_41 : decode cX10_init 41 = .ok (.putfield 24, 3) := by decide +kernel
theorem dX10_init_44 : decode cX10_init 44 = .ok (.aload_n 0, 1) := by decide +kernel
theorem dX10_init_45 : decode cX10_init 45 = .ok (.bipush 40, 2) := by decide +kernel
theorem dX10_init_47 : decode cX10_init 47 = .ok (.newarray .int, 2) := by decide +kernel
theorem dX10_init_49 : decode cX10_init 49 = .ok (.putfield 27, 3) := by decide +kernel
theorem dX10_init_52 : decode cX10_init 52 = .ok (.return_, 1) := by decide +kernel
theorem dX10_clear_0 : decode cX10_clear 0 = .ok (.aload_n 0, 1) := by decide +kernel
theorem dX10_clear_1 : decode cX10_clear 1 = .ok (.iconst 0, 1) := by decide +kernel
theorem dX10_clear_2 : decode cX10_clear 2 = .ok (.putfield 30, 3) := by decide +kernel
theorem dX10_clear_5 : decode cX10_clear 5 = .ok (.aload_n 0, 1) := by decide +kernel
theorem dX10_clear_6 : decode cX10_clear 6 = .ok (.iconst 0, 1) := by decide +kernel
theorem dX10_clear_7 : decode cX10_clear 7 = .ok (.putfield 34, 3) := by decide +kernel
theorem dX10_clear_10 : decode cX10_clear 10 = .ok (.return_, 1) := by decide +kernel
theorem dX10_add_0 : decode cX10_add 0 = .ok (.aload_n 0, 1) := by decide +kernel
theorem dX10_add_1 : decode cX10_add 1 = .ok (.getfield 30, 3) := by decide +kernel
theorem dX10_add_4 : decode cX10_add 4 = .ok (.bipush 20, 2) := by decide +kernel
theorem dX10_add_6 : decode cX10_add 6 = .ok (.if_icmp .lt 5, 3) := by decide +kernel
theorem dX10_add_9 : decode cX10_add 9 = .ok (.iconst (-1), 1) := by decide +kernel
theorem dX10_add_10 : decode cX10_add 10 = .ok (.ireturn, 1) := by decide +kernel
theorem dX10_add_11 : decode cX10_add 11 = .ok (.aload_n 0, 1) := by decide +kernel
theorem dX10_add_12 : decode cX10_add 12 = .ok (.getfield 9, 3) := by decide +kernel
theorem dX10_add_15 : decode cX10_add 15 = .ok (.aload_n 0, 1) := by decide +kernel
theorem dX10_add_16 : decode cX10_add 16 = .ok (.getfield 30, 3) := by decide +kernel
theorem dX10_add_19 : decode cX10_add 19 = .ok (.iload_n 1, 1) := by decide +kernel
theorem dX10_add_20 : decode cX10_add 20 = .ok (.invokestatic 37, 3) := by decide +kernel
theorem dX10_add_23 : decode cX10_add 23 = .ok (.aload_n 0, 1) := by decide +kernel
theorem dX10_add_24 : decode cX10_add 24 = .ok (.getfield 15, 3) := by decide +kernel
theorem dX10_add_27 : decode cX10_add 27 = .ok (.aload_n 0, 1) := by decide +kernel
theorem dX10_add_28 : decode cX10_add 28 = .ok (.getfield 30, 3) := by decide +kernel
theorem dX10_add_31 : decode cX10_add 31 = .ok (.iload_n 2, 1) := by decide +kernel
theorem dX10_add_32 : decode cX10_add 32 = .ok (.invokestatic 37, 3) := by decide +kernel
theorem dX10_add_35 : decode cX10_add 35 = .ok (.aload_n 0, 1) := by decide +kernel
theorem dX10_add_36 : decode cX10_add 36 = .ok (.getfield 18, 3) := by decide +kernel
theorem dX10_add_39 : decode cX10_add 39 = .ok (.aload_n 0, 1) := by decide +kernel
theorem dX10_add_40 : decode cX10_add 40 = .ok (.getfield 30, 3) := by decide +kernel
theorem dX10_add_43 : decode cX10_add 43 = .ok (.iconst 0, 1) := by decide +kernel
theorem dX10_add_44 : decode cX10_add 44 = .ok (.invokestatic 37, 3) := by decide +kernel
theorem dX10_add_47 : decode cX10_add 47 = .ok (.aload_n 0, 1) := by decide +kernel
theorem dX10_add_48 : decode cX10_add 48 = .ok (.getfield 21, 3) := by decide +kernel
theorem dX10_add_51 : decode cX10_add 51 = .ok (.aload_n 0, 1) := by decide +kernel
theorem dX10_add_52 : decode cX10_add 52 = .ok (.getfield 30, 3) := by decide +kernel
theorem dX10_add_55 : decode cX10_add 55 = .ok (.iconst 0, 1) := by decide +kernel
theorem dX10_add_56 : decode cX10_add 56 = .ok (.invokestatic 37, 3) := by decide +kernel
theorem dX10_add_59 : decode cX10_add 59 = .ok (.aload_n 0, 1) := by decide +kernel
theorem dX10_add_60 : decode cX10_add 60 = .ok (.dup, 1) := by decide +kernel
theorem dX10_add_61 : decode cX10_add 61 = .ok (.getfield 30, 3) := by decide +kernel
theorem dX10_add_64 : decode cX10_add 64 = .ok (.iconst 1, 1) := by decide +kernel
theorem dX10_add_65 : decode cX10_add 65 = .ok (.iadd, 1) := by decide +kernel
theorem dX10_add_66 : decode cX10_add 66 = .ok (.putfield 30, 3) := by decide +kernel
theorem dX10_add_69 : decode cX10_add 69 = .ok (.aload_n 0, 1) := by decide +kernel
theorem dX10_add_70 : decode cX10_add 70 = .ok (.getfield 30, 3) := by decide +kernel
theorem dX10_add_73 : decode cX10_add 73 = .ok (.iconst 1, 1) := by decide +kernel
theorem dX10_add_74 : decode cX10_add 74 = .ok (.isub, 1) := by decide +kernel
theorem dX10_add_75 : decode cX10_add 75 = .ok (.ireturn, 1) := by decide +kernel
theorem dX10_beginFiles_0 : decode cX10_beginFiles 0 = .ok (.aload_n 0, 1) := by decide +kernel
theorem dX10_beginFiles_1 : decode cX10_beginFiles 1 = .ok (.getfield 18, 3) := by decide +kernel
theorem dX10_beginFiles_4 : decode cX10_beginFiles 4 = .ok (.iload_n 1, 1) := by decide +kernel
theorem dX10_beginFiles_5 : decode cX10_beginFiles 5 = .ok (.aload_n 0, 1) := by decide +kernel
theorem dX10_beginFiles_6 : decode cX10_beginFiles 6 = .ok (.getfield 34, 3) := by decide +kernel
theorem dX10_beginFiles_9 : decode cX10_beginFiles 9 = .ok (.invokestatic 37, 3) := by decide +kernel
theorem dX10_beginFiles_12 : decode cX10_beginFiles 12 = .ok (.return_, 1) := by decide +kernel
theorem dX10_addFile_0 : decode cX10_addFile 0 = .ok (.aload_n 0, 1) := by decide +kernel
theorem dX10_addFile_1 : decode cX10_addFile 1 = .ok (.getfield 34, 3) := by decide +kernel
theorem dX10_addFile_4 : decode cX10_addFile 4 = .ok (.bipush 40, 2) := by decide +kernel
theorem dX10_addFile_6 : decode cX10_addFile 6 = .ok (.if_icmp .lt 4, 3) := by decide +kernel
theorem dX10_addFile_9 : decode cX10_addFile 9 = .ok (.return_, 1) := by decide +kernel
theorem dX10_addFile_10 : decode cX10_addFile 10 = .ok (.aload_n 0, 1) := by decide +kernel
theorem dX10_addFile_11 : decode cX10_addFile 11 = .ok (.getfield 24, 3) := by decide +kernel
theorem dX10_addFile_14 : decode cX10_addFile 14 = .ok (.aload_n 0, 1) := by decide +kernel
theorem dX10_addFile_15 : decode cX10_addFile 15 = .ok (.getfield 34, 3) := by decide +kernel
theorem dX10_addFile_18 : decode cX10_addFile 18 = .ok (.iload_n 2, 1) := by decide +kernel
theorem dX10_addFile_19 : decode cX10_addFile 19 = .ok (.invokestatic 37, 3) := by decide +kernel
theorem dX10_addFile_22 : decode cX10_addFile 22 = .ok (.aload_n 0, 1) := by decide +kernel
theorem dX10_addFile_23 : decode cX10_addFile 23 = .ok (.getfield 27, 3) := by decide +kernel
theorem dX10_addFile_26 : decode cX10_addFile 26 = .ok (.aload_n 0, 1) := by decide +kernel
theorem dX10_addFile_27 : decode cX10_addFile 27 = .ok (.getfield 34, 3) := by decide +kernel
theorem dX10_addFile_30 : decode cX10_addFile 30 = .ok (.iload_n 3, 1) := by decide +kernel
theorem dX10_addFile_31 : decode cX10_addFile 31 = .ok (.invokestatic 37, 3) := by decide +kernel
theorem dX10_addFile_34 : decode cX10_addFile 34 = .ok (.aload_n 0, 1) := by decide +kernel
theorem dX10_addFile_35 : decode cX10_addFile 35 = .ok (.dup, 1) := by decide +kernel
theorem dX10_addFile_36 : decode cX10_addFile 36 = .ok (.getfield 34, 3) := by decide +kernel
theorem dX10_addFile_39 : decode cX10_addFile 39 = .ok (.iconst 1, 1) := by decide +kernel
theorem dX10_addFile_40 : decode cX10_addFile 40 = .ok (.iadd, 1) := by decide +kernel
theorem dX10_addFile_41 : decode cX10_addFile 41 = .ok (.putfield 34, 3) := by decide +kernel
theorem dX10_addFile_44 : decode cX10_addFile 44 = .ok (.aload_n 0, 1) := by decide +kernel
theorem dX10_addFile_45 : decode cX10_addFile 45 = .ok (.getfield 21, 3) := by decide +kernel
theorem dX10_addFile_48 : decode cX10_addFile 48 = .ok (.iload_n 1, 1) := by decide +kernel
theorem dX10_addFile_49 : decode cX10_addFile 49 = .ok (.aload_n 0, 1) := by decide +kernel
theorem dX10_addFile_50 : decode cX10_addFile 50 = .ok (.getfield 21, 3) := by decide +kernel
theorem dX10_addFile_53 : decode cX10_addFile 53 = .ok (.iload_n 1, 1) := by decide +kernel
theorem dX10_addFile_54 : decode cX10_addFile 54 = .ok (.invokestatic 41, 3) := by decide +kernel
theorem dX10_addFile_57 : decode cX10_addFile 57 = .ok (.iconst 1, 1) := by decide +kernel
theorem dX10_addFile_58 : decode cX10_addFile 58 = .ok (.iadd, 1) := by decide +kernel
theorem dX10_addFile_59 : decode cX10_addFile 59 = .ok (.invokestatic 37, 3) := by decide +kernel
theorem dX10_addFile_62 : decode cX10_addFile 62 = .ok (.return_, 1) := by decide +kernel
theorem dX10_total_0 : decode cX10_total 0 = .ok (.aload_n 0, 1) := by decide +kernel
theorem dX10_total_1 : decode cX10_total 1 = .ok (.getfield 30, 3) := by decide +kernel
theorem dX10_total_4 : decode cX10_total 4 = .ok (.ireturn, 1) := by decide +kernel
theorem dX10_fileTotal_0 : decode cX10_fileTotal 0 = .ok (.aload_n 0, 1) := by decide +kernel
theorem dX10_fileTotal_1 : decode cX10_fileTotal 1 = .ok (.getfield 34, 3) := by decide +kernel
theorem dX10_fileTotal_4 : decode cX10_fileTotal 4 = .ok (.ireturn, 1) := by decide +kernel
theorem dX10_beginOf_0 : decode cX10_beginOf 0 = .ok (.aload_n 0, 1) := by decide +kernel
theorem dX10_beginOf_1 : decode cX10_beginOf 1 = .ok (.getfield 9, 3) := by decide +kernel
theorem dX10_beginOf_4 : decode cX10_beginOf 4 = .ok (.iload_n 1, 1) := by decide +kernel
theorem dX10_beginOf_5 : decode cX10_beginOf 5 = .ok (.invokestatic 41, 3) := by decide +kernel
theorem dX10_beginOf_8 : decode cX10_beginOf 8 = .ok (.ireturn, 1) := by decide +kernel
theorem dX10_firstEntryOf_0 : decode cX10_firstEntryOf 0 = .ok (.aload_n 0, 1) := by decide +kernel
theorem dX10_firstEntryOf_1 : decode cX10_firstEntryOf 1 = .ok (.getfield 15, 3) := by decide +kernel
theorem dX10_firstEntryOf_4 : decode cX10_firstEntryOf 4 = .ok (.iload_n 1, 1) := by decide +kernel
theorem dX10_firstEntryOf_5 : decode cX10_firstEntryOf 5 = .ok (.invokestatic 41, 3) := by decide +kernel
theorem dX10_firstEntryOf_8 : decode cX10_firstEntryOf 8 = .ok (.ireturn, 1) := by decide +kernel
theorem dX10_fileOf_0 : decode cX10_fileOf 0 = .ok (.iload_n 1, 1) := by decide +kernel
theorem dX10_fileOf_1 : decode cX10_fileOf 1 = .ok (.ifCond .lt 27, 3) := by decide +kernel
theorem dX10_fileOf_4 : decode cX10_fileOf 4 = .ok (.iload_n 1, 1) := by decide +kernel
theorem dX10_fileOf_5 : decode cX10_fileOf 5 = .ok (.aload_n 0, 1) := by decide +kernel
theorem dX10_fileOf_6 : decode cX10_fileOf 6 = .ok (.getfield 30, 3) := by decide +kernel
theorem dX10_fileOf_9 : decode cX10_fileOf 9 = .ok (.if_icmp .ge 19, 3) := by decide +kernel
theorem dX10_fileOf_12 : decode cX10_fileOf 12 = .ok (.iload_n 2, 1) := by decide +kernel
theorem dX10_fileOf_13 : decode cX10_fileOf 13 = .ok (.ifCond .lt 15, 3) := by decide +kernel
theorem dX10_fileOf_16 : decode cX10_fileOf 16 = .ok (.iload_n 2, 1) := by decide +kernel
theorem dX10_fileOf_17 : decode cX10_fileOf 17 = .ok (.aload_n 0, 1) := by decide +kernel
theorem dX10_fileOf_18 : decode cX10_fileOf 18 = .ok (.getfield 21, 3) := by decide +kernel
theorem dX10_fileOf_21 : decode cX10_fileOf 21 = .ok (.iload_n 1, 1) := by decide +kernel
theorem dX10_fileOf_22 : decode cX10_fileOf 22 = .ok (.invokestatic 41, 3) := by decide +kernel
theorem dX10_fileOf_25 : decode cX10_fileOf 25 = .ok (.if_icmp .lt 5, 3) := by decide +kernel
theorem dX10_fileOf_28 : decode cX10_fileOf 28 = .ok (.iconst (-1), 1) := by decide +kernel
theorem dX10_fileOf_29 : decode cX10_fileOf 29 = .ok (.ireturn, 1) := by decide +kernel
theorem dX10_fileOf_30 : decode cX10_fileOf 30 = .ok (.aload_n 0, 1) := by decide +kernel
theorem dX10_fileOf_31 : decode cX10_fileOf 31 = .ok (.getfield 18, 3) := by decide +kernel
theorem dX10_fileOf_34 : decode cX10_fileOf 34 = .ok (.iload_n 1, 1) := by decide +kernel
theorem dX10_fileOf_35 : decode cX10_fileOf 35 = .ok (.invokestatic 41, 3) := by decide +kernel
theorem dX10_fileOf_38 : decode cX10_fileOf 38 = .ok (.iload_n 2, 1) := by decide +kernel
theorem dX10_fileOf_39 : decode cX10_fileOf 39 = .ok (.iadd, 1) := by decide +kernel
theorem dX10_fileOf_40 : decode cX10_fileOf 40 = .ok (.ireturn, 1) := by decide +kernel
theorem dX10_filePlaceOf_0 : decode cX10_filePlaceOf 0 = .ok (.iload_n 1, 1) := by decide +kernel
theorem dX10_filePlaceOf_1 : decode cX10_filePlaceOf 1 = .ok (.ifCond .lt 22, 3) := by decide +kernel
theorem dX10_filePlaceOf_4 : decode cX10_filePlaceOf 4 = .ok (.iload_n 1, 1) := by decide +kernel
theorem dX10_filePlaceOf_5 : decode cX10_filePlaceOf 5 = .ok (.aload_n 0, 1) := by decide +kernel
theorem dX10_filePlaceOf_6 : decode cX10_filePlaceOf 6 = .ok (.getfield 34, 3) := by decide +kernel
theorem dX10_filePlaceOf_9 : decode cX10_filePlaceOf 9 = .ok (.if_icmp .ge 14, 3) := by decide +kernel
theorem dX10_filePlaceOf_12 : decode cX10_filePlaceOf 12 = .ok (.aload_n 0, 1) := by decide +kernel
theorem dX10_filePlaceOf_13 : decode cX10_filePlaceOf 13 = .ok (.getfield 24, 3) := by decide +kernel
theorem dX10_filePlaceOf_16 : decode cX10_filePlaceOf 16 = .ok (.iload_n 1, 1) := by decide +kernel
theorem dX10_filePlaceOf_17 : decode cX10_filePlaceOf 17 = .ok (.invokestatic 41, 3) := by decide +kernel
theorem dX10_filePlaceOf_20 : decode cX10_filePlaceOf 20 = .ok (.goto 4, 3) := by decide +kernel
theorem dX10_filePlaceOf_23 : decode cX10_filePlaceOf 23 = .ok (.iconst (-1), 1) := by decide +kernel
theorem dX10_filePlaceOf_24 : decode cX10_filePlaceOf 24 = .ok (.ireturn, 1) := by decide +kernel
theorem dX10_fileLengthOf_0 : decode cX10_fileLengthOf 0 = .ok (.iload_n 1, 1) := by decide +kernel
theorem dX10_fileLengthOf_1 : decode cX10_fileLengthOf 1 = .ok (.ifCond .lt 22, 3) := by decide +kernel
theorem dX10_fileLengthOf_4 : decode cX10_fileLengthOf 4 = .ok (.iload_n 1, 1) := by decide +kernel
theorem dX10_fileLengthOf_5 : decode cX10_fileLengthOf 5 = .ok (.aload_n 0, 1) := by decide +kernel
theorem dX10_fileLengthOf_6 : decode cX10_fileLengthOf 6 = .ok (.getfield 34, 3) := by decide +kernel
theorem dX10_fileLengthOf_9 : decode cX10_fileLengthOf 9 = .ok (.if_icmp .ge 14, 3) := by decide +kernel
theorem dX10_fileLengthOf_12 : decode cX10_fileLengthOf 12 = .ok (.aload_n 0, 1) := by decide +kernel
theorem dX10_fileLengthOf_13 : decode cX10_fileLengthOf 13 = .ok (.getfield 27, 3) := by decide +kernel
theorem dX10_fileLengthOf_16 : decode cX10_fileLengthOf 16 = .ok (.iload_n 1, 1) := by decide +kernel
theorem dX10_fileLengthOf_17 : decode cX10_fileLengthOf 17 = .ok (.invokestatic 41, 3) := by decide +kernel
theorem dX10_fileLengthOf_20 : decode cX10_fileLengthOf 20 = .ok (.goto 4, 3) := by decide +kernel
theorem dX10_fileLengthOf_23 : decode cX10_fileLengthOf 23 = .ok (.iconst (-1), 1) := by decide +kernel
theorem dX10_fileLengthOf_24 : decode cX10_fileLengthOf 24 = .ok (.ireturn, 1) := by decide +kernel
theorem dX11_init_0 : decode cX11_init 0 = .ok (.aload_n 0, 1) := by decide +kernel
theorem dX11_init_1 : decode cX11_init 1 = .ok (.invokespecial 3, 3) := by decide +kernel
theorem dX11_init_4 : decode cX11_init 4 = .ok (.aload_n 0, 1) := by decide +kernel
theorem dX11_init_5 : decode cX11_init 5 = .ok (.sipush 8000, 3) := by decide +kernel
theorem dX11_init_8 : decode cX11_init 8 = .ok (.newarray .byte, 2) := by decide +kernel
theorem dX11_init_10 : decode cX11_init 10 = .ok (.putfield 9, 3) := by decide +kernel
theorem dX11_init_13 : decode cX11_init 13 = .ok (.aload_n 0, 1) := by decide +kernel
theorem dX11_init_14 : decode cX11_init 14 = .ok (.sipush 8000, 3) := by decide +kernel
theorem dX11_init_17 : decode cX11_init 17 = .ok (.newarray .byte, 2) := by decide +kernel
theorem dX11_init_19 : decode cX11_init 19 = .ok (.putfield 13, 3) := by decide +kernel
theorem dX11_init_22 : decode cX11_init 22 = .ok (.aload_n 0, 1) := by decide +kernel
theorem dX11_init_23 : decode cX11_init 23 = .ok (.new 16, 3) := by decide +kernel
theorem dX11_init_26 : decode cX11_init 26 = .ok (.dup, 1) := by decide +kernel
theorem dX11_init_27 : decode cX11_init 27 = .ok (.aload_n 0, 1) := by decide +kernel
theorem dX11_init_28 : decode cX11_init 28 = .ok (.getfield 9, 3) := by decide +kernel
theorem dX11_init_31 : decode cX11_init 31 = .ok (.invokespecial 18, 3) := by decide +kernel
theorem dX11_init_34 : decode cX11_init 34 = .ok (.putfield 21, 3) := by decide +kernel
theorem dX11_init_37 : decode cX11_init 37 = .ok (.aload_n 0, 1) := by decide +kernel
theorem dX11_init_38 : decode cX11_init 38 = .ok (.new 25, 3) := by decide +kernel
theorem dX11_init_41 : decode cX11_init 41 = .ok (.dup, 1) := by decide +kernel
theorem dX11_init_42 : decode cX11_init 42 = .ok (.invokespecial 27, 3) := by decide +kernel
theorem dX11_init_45 : decode cX11_init 45 = .ok (.putfield 28, 3) := by decide +kernel
theorem dX11_init_48 : decode cX11_init 48 = .ok (.aload_n 0, 1) := by decide +kernel
theorem dX11_init_49 : decode cX11_init 49 = .ok (.new 32, 3) := by decide +kernel
theorem dX11_init_52 : decode cX11_init 52 = .ok (.dup, 1) := by decide +kernel
theorem dX11_init_53 : decode cX11_init 53 = .ok (.aload_n 0, 1) := by decide +kernel
theorem dX11_init_54 : decode cX11_init 54 = .ok (.getfield 21, 3) := by decide +kernel
theorem dX11_init_57 : decode cX11_init 57 = .ok (.aload_n 0, 1) := by decide +kernel
theorem dX11_init_58 : decode cX11_init 58 = .ok (.getfield 28, 3) := by decide +kernel
theorem dX11_init_61 : decode cX11_init 61 = .ok (.invokespecial 34, 3) := by decide +kernel
theorem dX11_init_64 : decode cX11_init 64 = .ok (.putfield 37, 3) := by decide +kernel
theorem dX11_init_67 : decode cX11_init 67 = .ok (.aload_n 0, 1) := by decide +kernel
theorem dX11_init_68 : decode cX11_init 68 = .ok (.new 41, 3) := by decide +kernel
theorem dX11_init_71 : decode cX11_init 71 = .ok (.dup, 1) := by decide +kernel
theorem dX11_init_72 : decode cX11_init 72 = .ok (.invokespecial 43, 3) := by decide +kernel
theorem dX11_init_75 : decode cX11_init 75 = .ok (.putfield 44, 3) := by decide +kernel
theorem dX11_init_78 : decode cX11_init 78 = .ok (.aload_n 0, 1) := by decide +kernel
theorem dX11_init_79 : decode cX11_init 79 = .ok (.new 48, 3) := by decide +kernel
theorem dX11_init_82 : decode cX11_init 82 = .ok (.dup, 1) := by decide +kernel
theorem dX11_init_83 : decode cX11_init 83 = .ok (.invokespecial 50, 3) := by decide +kernel
theorem dX11_init_86 : decode cX11_init 86 = .ok (.putfield 51, 3) := by decide +kernel
theorem dX11_init_89 : decode cX11_init 89 = .ok (.aload_n 0, 1) := by decide +kernel
theorem dX11_init_90 : decode cX11_init 90 = .ok (.new 48, 3) := by decide +kernel
theorem dX11_init_93 : decode cX11_init 93 = .ok (.dup, 1) := by decide +kernel
theorem dX11_init_94 : decode cX11_init 94 = .ok (.invokespecial 50, 3) := by decide +kernel
theorem dX11_init_97 : decode cX11_init 97 = .ok (.putfield 55, 3) := by decide +kernel
theorem dX11_init_100 : decode cX11_init 100 = .ok (.aload_n 0, 1) := by decide +kernel
theorem dX11_init_101 : decode cX11_init 101 = .ok (.iconst 0, 1) := by decide +kernel
theorem dX11_init_102 : decode cX11_init 102 = .ok (.putfield 58, 3) := by decide +kernel
theorem dX11_init_105 : decode cX11_init 105 = .ok (.return_, 1) := by decide +kernel
theorem dX11_feed_0 : decode cX11_feed 0 = .ok (.aload_n 0, 1) := by decide +kernel
theorem dX11_feed_1 : decode cX11_feed 1 = .ok (.getfield 58, 3) := by decide +kernel
theorem dX11_feed_4 : decode cX11_feed 4 = .ok (.bipush 20, 2) := by decide +kernel
theorem dX11_feed_6 : decode cX11_feed 6 = .ok (.iadd, 1) := by decide +kernel
theorem dX11_feed_7 : decode cX11_feed 7 = .ok (.sipush 8000, 3) := by decide +kernel
theorem dX11_feed_10 : decode cX11_feed 10 = .ok (.if_icmp .le 5, 3) := by decide +kernel
theorem dX11_feed_13 : decode cX11_feed 13 = .ok (.iconst (-1), 1) := by decide +kernel
theorem dX11_feed_14 : decode cX11_feed 14 = .ok (.ireturn, 1) := by decide +kernel
theorem dX11_feed_15 : decode cX11_feed 15 = .ok (.aload_n 0, 1) := by decide +kernel
theorem dX11_feed_16 : decode cX11_feed 16 = .ok (.iload_n 1, 1) := by decide +kernel
theorem dX11_feed_17 : decode cX11_feed 17 = .ok (.invokevirtual 62, 3) := by decide +kernel
theorem dX11_feed_20 : decode cX11_feed 20 = .ok (.aload_n 0, 1) := by decide +kernel
theorem dX11_feed_21 : decode cX11_feed 21 = .ok (.iload_n 2, 1) := by decide +kernel
theorem dX11_feed_22 : decode cX11_feed 22 = .ok (.invokevirtual 62, 3) := by decide +kernel
theorem dX11_feed_25 : decode cX11_feed 25 = .ok (.aload_n 0, 1) := by decide +kernel
theorem dX11_feed_26 : decode cX11_feed 26 = .ok (.iload_n 3, 1) := by decide +kernel
theorem dX11_feed_27 : decode cX11_feed 27 = .ok (.invokevirtual 62, 3) := by decide +kernel
theorem dX11_feed_30 : decode cX11_feed 30 = .ok (.aload_n 0, 1) := by decide +kernel
theorem dX11_feed_31 : decode cX11_feed 31 = .ok (.iload 4, 2) := by decide +kernel
theorem dX11_feed_33 : decode cX11_feed 33 = .ok (.invokevirtual 62, 3) := by decide +kernel
theorem dX11_feed_36 : decode cX11_feed 36 = .ok (.aload_n 0, 1) := by decide +kernel
theorem dX11_feed_37 : decode cX11_feed 37 = .ok (.iload 5, 2) := by decide +kernel
theorem dX11_feed_39 : decode cX11_feed 39 = .ok (.invokevirtual 62, 3) := by decide +kernel
theorem dX11_feed_42 : decode cX11_feed 42 = .ok (.aload_n 0, 1) := by decide +kernel
theorem dX11_feed_43 : decode cX11_feed 43 = .ok (.getfield 58, 3) := by decide +kernel
theorem dX11_feed_46 : decode cX11_feed 46 = .ok (.ireturn, 1) := by decide +kernel
theorem dX11_append_0 : decode cX11_append 0 = .ok (.bipush 24, 2) := by decide +kernel
theorem dX11_append_2 : decode cX11_append 2 = .ok (.istore_n 2, 1) := by decide +kernel
theorem dX11_append_3 : decode cX11_append 3 = .ok (.iload_n 2, 1) := by decide +kernel
theorem dX11_append_4 : decode cX11_append 4 = .ok (.ifCond .lt 51, 3) := by decide +kernel
theorem dX11_append_7 : decode cX11_append 7 = .ok (.aload_n 0, 1) := by decide +kernel
theorem dX11_append_8 : decode cX11_append 8 = .ok (.getfield 58, 3) := by decide +kernel
theorem dX11_append_11 : decode cX11_append 11 = .ok (.ifCond .lt 38, 3) := by decide +kernel
theorem dX11_append_14 : decode cX11_append 14 = .ok (.aload_n 0, 1) := by decide +kernel
theorem dX11_append_15 : decode cX11_append 15 = .ok (.getfield 58, 3) := by decide +kernel
theorem dX11_append_18 : decode cX11_append 18 = .ok (.aload_n 0, 1) := by decide +kernel
theorem dX11_append_19 : decode cX11_append 19 = .ok (.getfield 9, 3) := by decide +kernel
theorem dX11_append_22 : decode cX11_append 22 = .ok (.arraylength, 1) := by decide +kernel
theorem dX11_append_23 : decode cX11_append 23 = .ok (.if_icmp .ge 26, 3) := by decide +kernel
theorem dX11_append_26 : decode cX11_append 26 = .ok (.aload_n 0, 1) := by decide +kernel
theorem dX11_append_27 : decode cX11_append 27 = .ok (.getfield 9, 3) := by decide +kernel
theorem dX11_append_30 : decode cX11_append 30 = .ok (.aload_n 0, 1) := by decide +kernel
theorem dX11_append_31 : decode cX11_append 31 = .ok (.getfield 58, 3) := by decide +kernel
theorem dX11_append_34 : decode cX11_append 34 = .ok (.iload_n 1, 1) := by decide +kernel
theorem dX11_append_35 : decode cX11_append 35 = .ok (.iload_n 2, 1) := by decide +kernel
theorem dX11_append_36 : decode cX11_append 36 = .ok (.ishr, 1) := by decide +kernel
theorem dX11_append_37 : decode cX11_append 37 = .ok (.i2b, 1) := by decide +kernel
theorem dX11_append_38 : decode cX11_append 38 = .ok (.bastore, 1) := by decide +kernel
theorem dX11_append_39 : decode cX11_append 39 = .ok (.aload_n 0, 1) := by decide +kernel
theorem dX11_append_40 : decode cX11_append 40 = .ok (.dup, 1) := by decide +kernel
theorem dX11_append_41 : decode cX11_append 41 = .ok (.getfield 58, 3) := by decide +kernel
theorem dX11_append_44 : decode cX11_append 44 = .ok (.iconst 1, 1) := by decide +kernel
theorem dX11_append_45 : decode cX11_append 45 = .ok (.iadd, 1) := by decide +kernel
theorem dX11_append_46 : decode cX11_append 46 = .ok (.putfield 58, 3) := by decide +kernel
theorem dX11_append_49 : decode cX11_append 49 = .ok (.iinc 2 (-8), 3) := by decide +kernel
theorem dX11_append_52 : decode cX11_append 52 = .ok (.goto (-49), 3) := by decide +kernel
theorem dX11_append_55 : decode cX11_append 55 = .ok (.return_, 1) := by decide +kernel
theorem dX11_end_0 : decode cX11_end 0 = .ok (.iload_n 1, 1) := by decide +kernel
theorem dX11_end_1 : decode cX11_end 1 = .ok (.ifCond .lt 11, 3) := by decide +kernel
theorem dX11_end_4 : decode cX11_end 4 = .ok (.iload_n 1, 1) := by decide +kernel
theorem dX11_end_5 : decode cX11_end 5 = .ok (.aload_n 0, 1) := by decide +kernel
theorem dX11_end_6 : decode cX11_end 6 = .ok (.getfield 58, 3) := by decide +kernel
theorem dX11_end_9 : decode cX11_end 9 = .ok (.if_icmp .le 5, 3) := by decide +kernel
theorem dX11_end_12 : decode cX11_end 12 = .ok (.iconst 0, 1) := by decide +kernel
theorem dX11_end_13 : decode cX11_end 13 = .ok (.ireturn, 1) := by decide +kernel
theorem dX11_end_14 : decode cX11_end 14 = .ok (.aload_n 0, 1) := by decide +kernel
theorem dX11_end_15 : decode cX11_end 15 = .ok (.iload_n 1, 1) := by decide +kernel
theorem dX11_end_16 : decode cX11_end 16 = .ok (.putfield 58, 3) := by decide +kernel
theorem dX11_end_19 : decode cX11_end 19 = .ok (.iconst 1, 1) := by decide +kernel
theorem dX11_end_20 : decode cX11_end 20 = .ok (.ireturn, 1) := by decide +kernel
theorem dX11_poke_0 : decode cX11_poke 0 = .ok (.iload_n 1, 1) := by decide +kernel
theorem dX11_poke_1 : decode cX11_poke 1 = .ok (.ifCond .lt 20, 3) := by decide +kernel
theorem dX11_poke_4 : decode cX11_poke 4 = .ok (.iload_n 1, 1) := by decide +kernel
theorem dX11_poke_5 : decode cX11_poke 5 = .ok (.aload_n 0, 1) := by decide +kernel
theorem dX11_poke_6 : decode cX11_poke 6 = .ok (.getfield 58, 3) := by decide +kernel
theorem dX11_poke_9 : decode cX11_poke 9 = .ok (.if_icmp .ge 12, 3) := by decide +kernel
theorem dX11_poke_12 : decode cX11_poke 12 = .ok (.iload_n 1, 1) := by decide +kernel
theorem dX11_poke_13 : decode cX11_poke 13 = .ok (.aload_n 0, 1) := by decide +kernel
theorem dX11_poke_14 : decode cX11_poke 14 = .ok (.getfield 9, 3) := by decide +kernel
theorem dX11_poke_17 : decode cX11_poke 17 = .ok (.arraylength, 1) := by decide +kernel
theorem dX11_poke_18 : decode cX11_poke 18 = .ok (.if_icmp .lt 5, 3) := by decide +kernel
theorem dX11_poke_21 : decode cX11_poke 21 = .ok (.iconst 0, 1) := by decide +kernel
theorem dX11_poke_22 : decode cX11_poke 22 = .ok (.ireturn, 1) := by decide +kernel
theorem dX11_poke_23 : decode cX11_poke 23 = .ok (.aload_n 0, 1) := by decide +kernel
theorem dX11_poke_24 : decode cX11_poke 24 = .ok (.getfield 9, 3) := by decide +kernel
theorem dX11_poke_27 : decode cX11_poke 27 = .ok (.iload_n 1, 1) := by decide +kernel
theorem dX11_poke_28 : decode cX11_poke 28 = .ok (.iload_n 2, 1) := by decide +kernel
theorem dX11_poke_29 : decode cX11_poke 29 = .ok (.i2b, 1) := by decide +kernel
theorem dX11_poke_30 : decode cX11_poke 30 = .ok (.bastore, 1) := by decide +kernel
theorem dX11_poke_31 : decode cX11_poke 31 = .ok (.iconst 1, 1) := by decide +kernel
theorem dX11_poke_32 : decode cX11_poke 32 = .ok (.ireturn, 1) := by decide +kernel
theorem dX11_load_0 : decode cX11_load 0 = .ok (.aload_n 0, 1) := by decide +kernel
theorem dX11_load_1 : decode cX11_load 1 = .ok (.getfield 21, 3) := by decide +kernel
theorem dX11_load_4 : decode cX11_load 4 = .ok (.aload_n 0, 1) := by decide +kernel
theorem dX11_load_5 : decode cX11_load 5 = .ok (.getfield 58, 3) := by decide +kernel
theorem dX11_load_8 : decode cX11_load 8 = .ok (.invokevirtual 66, 3) := by decide +kernel
theorem dX11_load_11 : decode cX11_load 11 = .ok (.aload_n 0, 1) := by decide +kernel
theorem dX11_load_12 : decode cX11_load 12 = .ok (.getfield 28, 3) := by decide +kernel
theorem dX11_load_15 : decode cX11_load 15 = .ok (.aload_n 0, 1) := by decide +kernel
theorem dX11_load_16 : decode cX11_load 16 = .ok (.getfield 21, 3) := by decide +kernel
theorem dX11_load_19 : decode cX11_load 19 = .ok (.invokevirtual 69, 3) := by decide +kernel
theorem dX11_load_22 : decode cX11_load 22 = .ok (.aload_n 0, 1) := by decide +kernel
theorem dX11_load_23 : decode cX11_load 23 = .ok (.getfield 55, 3) := by decide +kernel
theorem dX11_load_26 : decode cX11_load 26 = .ok (.aload_n 0, 1) := by decide +kernel
theorem dX11_load_27 : decode cX11_load 27 = .ok (.getfield 28, 3) := by decide +kernel
theorem dX11_load_30 : decode cX11_load 30 = .ok (.invokevirtual 73, 3) := by decide +kernel
theorem dX11_load_33 : decode cX11_load 33 = .ok (.putfield 77, 3) := by decide +kernel
theorem dX11_load_36 : decode cX11_load 36 = .ok (.aload_n 0, 1) := by decide +kernel
theorem dX11_load_37 : decode cX11_load 37 = .ok (.getfield 55, 3) := by decide +kernel
theorem dX11_load_40 : decode cX11_load 40 = .ok (.getfield 80, 3) := by decide +kernel
theorem dX11_load_43 : decode cX11_load 43 = .ok (.aload_n 0, 1) := by decide +kernel
theorem dX11_load_44 : decode cX11_load 44 = .ok (.getfield 21, 3) := by decide +kernel
theorem dX11_load_47 : decode cX11_load 47 = .ok (.aload_n 0, 1) := by decide +kernel
theorem dX11_load_48 : decode cX11_load 48 = .ok (.getfield 28, 3) := by decide +kernel
theorem dX11_load_51 : decode cX11_load 51 = .ok (.invokevirtual 84, 3) := by decide +kernel
theorem dX11_load_54 : decode cX11_load 54 = .ok (.aload_n 0, 1) := by decide +kernel
theorem dX11_load_55 : decode cX11_load 55 = .ok (.getfield 37, 3) := by decide +kernel
theorem dX11_load_58 : decode cX11_load 58 = .ok (.aload_n 0, 1) := by decide +kernel
theorem dX11_load_59 : decode cX11_load 59 = .ok (.getfield 55, 3) := by decide +kernel
theorem dX11_load_62 : decode cX11_load 62 = .ok (.invokevirtual 88, 3) := by decide +kernel
theorem dX11_load_65 : decode cX11_load 65 = .ok (.aload_n 0, 1) := by decide +kernel
theorem dX11_load_66 : decode cX11_load 66 = .ok (.getfield 55, 3) := by decide +kernel
theorem dX11_load_69 : decode cX11_load 69 = .ok (.getfield 92, 3) := by decide +kernel
theorem dX11_load_72 : decode cX11_load 72 = .ok (.aload_n 0, 1) := by decide +kernel
theorem dX11_load_73 : decode cX11_load 73 = .ok (.getfield 21, 3) := by decide +kernel
theorem dX11_load_76 : decode cX11_load 76 = .ok (.aload_n 0, 1) := by decide +kernel
theorem dX11_load_77 : decode cX11_load 77 = .ok (.getfield 28, 3) := by decide +kernel
theorem dX11_load_80 : decode cX11_load 80 = .ok (.aload_n 0, 1) := by decide +kernel
theorem dX11_load_81 : decode cX11_load 81 = .ok (.getfield 55, 3) := by decide +kernel
theorem dX11_load_84 : decode cX11_load 84 = .ok (.invokevirtual 96, 3) := by decide +kernel
theorem dX11_load_87 : decode cX11_load 87 = .ok (.aload_n 0, 1) := by decide +kernel
theorem dX11_load_88 : decode cX11_load 88 = .ok (.getfield 55, 3) := by decide +kernel
theorem dX11_load_91 : decode cX11_load 91 = .ok (.getfield 101, 3) := by decide +kernel
theorem dX11_load_94 : decode cX11_load 94 = .ok (.aload_n 0, 1) := by decide +kernel
theorem dX11_load_95 : decode cX11_load 95 = .ok (.getfield 21, 3) := by decide +kernel
theorem dX11_load_98 : decode cX11_load 98 = .ok (.aload_n 0, 1) := by decide +kernel
theorem dX11_load_99 : decode cX11_load 99 = .ok (.getfield 28, 3) := by decide +kernel
theorem dX11_load_102 : decode cX11_load 102 = .ok (.aload_n 0, 1) := by decide +kernel
theorem dX11_load_103 : decode cX11_load 103 = .ok (.getfield 55, 3) := by decide +kernel
theorem dX11_load_106 : decode cX11_load 106 = .ok (.invokevirtual 105, 3) := by decide +kernel
theorem dX11_load_109 : decode cX11_load 109 = .ok (.aload_n 0, 1) := by decide +kernel
theorem dX11_load_110 : decode cX11_load 110 = .ok (.getfield 21, 3) := by decide +kernel
theorem dX11_load_113 : decode cX11_load 113 = .ok (.invokevirtual 108, 3) := by decide +kernel
theorem dX11_load_116 : decode cX11_load 116 = .ok (.ifCond .ne 5, 3) := by decide +kernel
theorem dX11_load_119 : decode cX11_load 119 = .ok (.iconst (-1), 1) := by decide +kernel
theorem dX11_load_120 : decode cX11_load 120 = .ok (.ireturn, 1) := by decide +kernel
theorem dX11_load_121 : decode cX11_load 121 = .ok (.aload_n 0, 1) := by decide +kernel
theorem dX11_load_122 : decode cX11_load 122 = .ok (.invokevirtual 112, 3) := by decide +kernel
theorem dX11_load_125 : decode cX11_load 125 = .ok (.aload_n 0, 1) := by decide +kernel
theorem dX11_load_126 : decode cX11_load 126 = .ok (.getfield 51, 3) := by decide +kernel
theorem dX11_load_129 : decode cX11_load 129 = .ok (.getfield 115, 3) := by decide +kernel
theorem dX11_load_132 : decode cX11_load 132 = .ok (.invokevirtual 119, 3) := by decide +kernel
theorem dX11_load_135 : decode cX11_load 135 = .ok (.ireturn, 1) := by decide +kernel
theorem dX11_takeSpare_0 : decode cX11_takeSpare 0 = .ok (.aload_n 0, 1) := by decide +kernel
theorem dX11_takeSpare_1 : decode cX11_takeSpare 1 = .ok (.getfield 51, 3) := by decide +kernel
theorem dX11_takeSpare_4 : decode cX11_takeSpare 4 = .ok (.astore_n 1, 1) := by decide +kernel
theorem dX11_takeSpare_5 : decode cX11_takeSpare 5 = .ok (.aload_n 0, 1) := by decide +kernel
theorem dX11_takeSpare_6 : decode cX11_takeSpare 6 = .ok (.aload_n 0, 1) := by decide +kernel
theorem dX11_takeSpare_7 : decode cX11_takeSpare 7 = .ok (.getfield 55, 3) := by decide +kernel
theorem dX11_takeSpare_10 : decode cX11_takeSpare 10 = .ok (.putfield 51, 3) := by decide +kernel
theorem dX11_takeSpare_13 : decode cX11_takeSpare 13 = .ok (.aload_n 0, 1) := by decide +kernel
theorem dX11_takeSpare_14 : decode cX11_takeSpare 14 = .ok (.aload_n 1, 1) := by decide +kernel
theorem dX11_takeSpare_15 : decode cX11_takeSpare 15 = .ok (.putfield 55, 3) := by decide +kernel
theorem dX11_takeSpare_18 : decode cX11_takeSpare 18 = .ok (.aload_n 0, 1) := by decide +kernel
theorem dX11_takeSpare_19 : decode cX11_takeSpare 19 = .ok (.getfield 58, 3) := by decide +kernel
theorem dX11_takeSpare_22 : decode cX11_takeSpare 22 = .ok (.ifCond .lt 44, 3) := by decide +kernel
theorem dX11_takeSpare_25 : decode cX11_takeSpare 25 = .ok (.aload_n 0, 1) := by decide +kernel
theorem dX11_takeSpare_26 : decode cX11_takeSpare 26 = .ok (.getfield 58, 3) := by decide +kernel
theorem dX11_takeSpare_29 : decode cX11_takeSpare 29 = .ok (.aload_n 0, 1) := by decide +kernel
theorem dX11_takeSpare_30 : decode cX11_takeSpare 30 = .ok (.getfield 9, 3) := by decide +kernel
theorem dX11_takeSpare_33 : decode cX11_takeSpare 33 = .ok (.arraylength, 1) := by decide +kernel
theorem dX11_takeSpare_34 : decode cX11_takeSpare 34 = .ok (.if_icmp .gt 32, 3) := by decide +kernel
theorem dX11_takeSpare_37 : decode cX11_takeSpare 37 = .ok (.aload_n 0, 1) := by decide +kernel
theorem dX11_takeSpare_38 : decode cX11_takeSpare 38 = .ok (.getfield 58, 3) := by decide +kernel
theorem dX11_takeSpare_41 : decode cX11_takeSpare 41 = .ok (.aload_n 0, 1) := by decide +kernel
theorem dX11_takeSpare_42 : decode cX11_takeSpare 42 = .ok (.getfield 13, 3) := by decide +kernel
theorem dX11_takeSpare_45 : decode cX11_takeSpare 45 = .ok (.arraylength, 1) := by decide +kernel
theorem dX11_takeSpare_46 : decode cX11_takeSpare 46 = .ok (.if_icmp .gt 20, 3) := by decide +kernel
theorem dX11_takeSpare_49 : decode cX11_takeSpare 49 = .ok (.aload_n 0, 1) := by decide +kernel
theorem dX11_takeSpare_50 : decode cX11_takeSpare 50 = .ok (.getfield 9, 3) := by decide +kernel
theorem dX11_takeSpare_53 : decode cX11_takeSpare 53 = .ok (.iconst 0, 1) := by decide +kernel
theorem dX11_takeSpare_54 : decode cX11_takeSpare 54 = .ok (.aload_n 0, 1) := by decide +kernel
theorem dX11_takeSpare_55 : decode cX11_takeSpare 55 = .ok (.getfield 13, 3) := by decide +kernel
theorem dX11_takeSpare_58 : decode cX11_takeSpare 58 = .ok (.iconst 0, 1) := by decide +kernel
theorem dX11_takeSpare_59 : decode cX11_takeSpare 59 = .ok (.aload_n 0, 1) := by decide +kernel
theorem dX11_takeSpare_60 : decode cX11_takeSpare 60 = .ok (.getfield 58, 3) := by decide +kernel
theorem dX11_takeSpare_63 : decode cX11_takeSpare 63 = .ok (.invokestatic 122, 3) := by decide +kernel
theorem dX11_takeSpare_66 : decode cX11_takeSpare 66 = .ok (.aload_n 0, 1) := by decide +kernel
theorem dX11_takeSpare_67 : decode cX11_takeSpare 67 = .ok (.getfield 44, 3) := by decide +kernel
theorem dX11_takeSpare_70 : decode cX11_takeSpare 70 = .ok (.invokevirtual 128, 3) := by decide +kernel
theorem dX11_takeSpare_73 : decode cX11_takeSpare 73 = .ok (.return_, 1) := by decide +kernel
theorem dX11_fault_0 : decode cX11_fault 0 = .ok (.iload_n 1, 1) := by decide +kernel
theorem dX11_fault_1 : decode cX11_fault 1 = .ok (.lookupswitch 43 #[(0, 27), (1, 35)], 27) := by decide +kernel
theorem dX11_fault_28 : decode cX11_fault 28 = .ok (.aload_n 0, 1) := by decide +kernel
theorem dX11_fault_29 : decode cX11_fault 29 = .ok (.getfield 21, 3) := by decide +kernel
theorem dX11_fault_32 : decode cX11_fault 32 = .ok (.invokevirtual 131, 3) := by decide +kernel
theorem dX11_fault_35 : decode cX11_fault 35 = .ok (.ireturn, 1) := by decide +kernel
theorem dX11_fault_36 : decode cX11_fault 36 = .ok (.aload_n 0, 1) := by decide +kernel
theorem dX11_fault_37 : decode cX11_fault 37 = .ok (.getfield 21, 3) := by decide +kernel
theorem dX11_fault_40 : decode cX11_fault 40 = .ok (.invokevirtual 134, 3) := by decide +kernel
theorem dX11_fault_43 : decode cX11_fault 43 = .ok (.ireturn, 1) := by decide +kernel
theorem dX11_fault_44 : decode cX11_fault 44 = .ok (.iconst (-1), 1) := by decide +kernel
theorem dX11_fault_45 : decode cX11_fault 45 = .ok (.ireturn, 1) := by decide +kernel
theorem dX11_entry_0 : decode cX11_entry 0 = .ok (.aload_n 0, 1) := by decide +kernel
theorem dX11_entry_1 : decode cX11_entry 1 = .ok (.getfield 51, 3) := by decide +kernel
theorem dX11_entry_4 : decode cX11_entry 4 = .ok (.getfield 115, 3) := by decide +kernel
theorem dX11_entry_7 : decode cX11_entry 7 = .ok (.astore_n 3, 1) := by decide +kernel
theorem dX11_entry_8 : decode cX11_entry 8 = .ok (.aload_n 3, 1) := by decide +kernel
theorem dX11_entry_9 : decode cX11_entry 9 = .ok (.iload_n 1, 1) := by decide +kernel
theorem dX11_entry_10 : decode cX11_entry 10 = .ok (.invokevirtual 137, 3) := by decide +kernel
theorem dX11_entry_13 : decode cX11_entry 13 = .ok (.ifCond .ne 5, 3) := by decide +kernel
theorem dX11_entry_16 : decode cX11_entry 16 = .ok (.iconst (-1), 1) := by decide +kernel
theorem dX11_entry_17 : decode cX11_entry 17 = .ok (.ireturn, 1) := by decide +kernel
theorem dX11_entry_18 : decode cX11_entry 18 = .ok (.iload_n 2, 1) := by decide +kernel
theorem dX11_entry_19 : decode cX11_entry 19 = .ok (.tableswitch 120 0 8 #[49, 56, 62, 68, 74, 80, 86, 96, 108], 49) := by decide +kernel
theorem dX11_entry_68 : decode cX11_entry 68 = .ok (.aload_n 3, 1) := by decide +kernel
theorem dX11_entry_69 : decode cX11_entry 69 = .ok (.iload_n 1, 1) := by decide +kernel
theorem dX11_entry_70 : decode cX11_entry 70 = .ok (.invokevirtual 141, 3) := by decide +kernel
theorem dX11_entry_73 : decode cX11_entry 73 = .ok (.l2i, 1) := by decide +kernel
theorem dX11_entry_74 : decode cX11_entry 74 = .ok (.ireturn, 1) := by decide +kernel
theorem dX11_entry_75 : decode cX11_entry 75 = .ok (.aload_n 3, 1) := by decide +kernel
theorem dX11_entry_76 : decode cX11_entry 76 = .ok (.iload_n 1, 1) := by decide +kernel
theorem dX11_entry_77 : decode cX11_entry 77 = .ok (.invokevirtual 145, 3) := by decide +kernel
theorem dX11_entry_80 : decode cX11_entry 80 = .ok (.ireturn, 1) := by decide +kernel
theorem dX11_entry_81 : decode cX11_entry 81 = .ok (.aload_n 3, 1) := by decide +kernel
theorem dX11_entry_82 : decode cX11_entry 82 = .ok (.iload_n 1, 1) := by decide +kernel
theorem dX11_entry_83 : decode cX11_entry 83 = .ok (.invokevirtual 149, 3) := by decide +kernel
theorem dX11_entry_86 : decode cX11_entry 86 = .ok (.ireturn, 1) := by decide +kernel
theorem dX11_entry_87 : decode cX11_entry 87 = .ok (.aload_n 3, 1) := by decide +kernel
theorem dX11_entry_88 : decode cX11_entry 88 = .ok (.iload_n 1, 1) := by decide +kernel
theorem dX11_entry_89 : decode cX11_entry 89 = .ok (.invokevirtual 152, 3) := by decide +kernel
theorem dX11_entry_92 : decode cX11_entry 92 = .ok (.ireturn, 1) := by decide +kernel
theorem dX11_entry_93 : decode cX11_entry 93 = .ok (.aload_n 3, 1) := by decide +kernel
theorem dX11_entry_94 : decode cX11_entry 94 = .ok (.iload_n 1, 1) := by decide +kernel
theorem dX11_entry_95 : decode cX11_entry 95 = .ok (.invokevirtual 155, 3) := by decide +kernel
theorem dX11_entry_98 : decode cX11_entry 98 = .ok (.ireturn, 1) := by decide +kernel
theorem dX11_entry_99 : decode cX11_entry 99 = .ok (.aload_n 3, 1) := by decide +kernel
theorem dX11_entry_100 : decode cX11_entry 100 = .ok (.iload_n 1, 1) := by decide +kernel
theorem dX11_entry_101 : decode cX11_entry 101 = .ok (.invokevirtual 158, 3) := by decide +kernel
theorem dX11_entry_104 : decode cX11_entry 104 = .ok (.ireturn, 1) := by decide +kernel
theorem dX11_entry_105 : decode cX11_entry 105 = .ok (.aload_n 3, 1) := by decide +kernel
theorem dX11_entry_106 : decode cX11_entry 106 = .ok (.aload_n 3, 1) := by decide +kernel
theorem dX11_entry_107 : decode cX11_entry 107 = .ok (.iload_n 1, 1) := by decide +kernel
theorem dX11_entry_108 : decode cX11_entry 108 = .ok (.invokevirtual 161, 3) := by decide +kernel
theorem dX11_entry_111 : decode cX11_entry 111 = .ok (.invokevirtual 164, 3) := by decide +kernel
theorem dX11_entry_114 : decode cX11_entry 114 = .ok (.ireturn, 1) := by decide +kernel
theorem dX11_entry_115 : decode cX11_entry 115 = .ok (.aload_n 3, 1) := by decide +kernel
theorem dX11_entry_116 : decode cX11_entry 116 = .ok (.iload_n 1, 1) := by decide +kernel
theorem dX11_entry_117 : decode cX11_entry 117 = .ok (.bipush 7, 2) := by decide +kernel
theorem dX11_entry_119 : decode cX11_entry 119 = .ok (.ldc2_w 167, 3) := by decide +kernel
theorem dX11_entry_122 : decode cX11_entry 122 = .ok (.invokevirtual 169, 3) := by decide +kernel
theorem dX11_entry_125 : decode cX11_entry 125 = .ok (.l2i, 1) := by decide +kernel
theorem dX11_entry_126 : decode cX11_entry 126 = .ok (.ireturn, 1) := by decide +kernel
theorem dX11_entry_127 : decode cX11_entry 127 = .ok (.aload_n 3, 1) := by decide +kernel
theorem dX11_entry_128 : decode cX11_entry 128 = .ok (.iload_n 1, 1) := by decide +kernel
theorem dX11_entry_129 : decode cX11_entry 129 = .ok (.bipush 8, 2) := by decide +kernel
theorem dX11_entry_131 : decode cX11_entry 131 = .ok (.ldc2_w 167, 3) := by decide +kernel
theorem dX11_entry_134 : decode cX11_entry 134 = .ok (.invokevirtual 169, 3) := by decide +kernel
theorem dX11_entry_137 : decode cX11_entry 137 = .ok (.l2i, 1) := by decide +kernel
theorem dX11_entry_138 : decode cX11_entry 138 = .ok (.ireturn, 1) := by decide +kernel
theorem dX11_entry_139 : decode cX11_entry 139 = .ok (.iconst (-1), 1) := by decide +kernel
theorem dX11_entry_140 : decode cX11_entry 140 = .ok (.ireturn, 1) := by decide +kernel
theorem dX11_holds_0 : decode cX11_holds 0 = .ok (.aload_n 0, 1) := by decide +kernel
theorem dX11_holds_1 : decode cX11_holds 1 = .ok (.getfield 51, 3) := by decide +kernel
theorem dX11_holds_4 : decode cX11_holds 4 = .ok (.iload_n 1, 1) := by decide +kernel
theorem dX11_holds_5 : decode cX11_holds 5 = .ok (.lload_n 2, 1) := by decide +kernel
theorem dX11_holds_6 : decode cX11_holds 6 = .ok (.invokevirtual 173, 3) := by decide +kernel
theorem dX11_holds_9 : decode cX11_holds 9 = .ok (.ireturn, 1) := by decide +kernel
theorem dX11_row_0 : decode cX11_row 0 = .ok (.aload_n 0, 1) := by decide +kernel
theorem dX11_row_1 : decode cX11_row 1 = .ok (.getfield 51, 3) := by decide +kernel
theorem dX11_row_4 : decode cX11_row 4 = .ok (.getfield 101, 3) := by decide +kernel
theorem dX11_row_7 : decode cX11_row 7 = .ok (.astore_n 3, 1) := by decide +kernel
theorem dX11_row_8 : decode cX11_row 8 = .ok (.aload_n 3, 1) := by decide +kernel
theorem dX11_row_9 : decode cX11_row 9 = .ok (.iload_n 1, 1) := by decide +kernel
theorem dX11_row_10 : decode cX11_row 10 = .ok (.invokevirtual 177, 3) := by decide +kernel
theorem dX11_row_13 : decode cX11_row 13 = .ok (.ifCond .ne 5, 3) := by decide +kernel
theorem dX11_row_16 : decode cX11_row 16 = .ok (.iconst (-1), 1) := by decide +kernel
theorem dX11_row_17 : decode cX11_row 17 = .ok (.ireturn, 1) := by decide +kernel
theorem dX11_row_18 : decode cX11_row 18 = .ok (.iload_n 2, 1) := by decide +kernel
theorem dX11_row_19 : decode cX11_row 19 = .ok (.tableswitch 61 0 3 #[29, 35, 41, 47], 29) := by decide +kernel
theorem dX11_row_48 : decode cX11_row 48 = .ok (.aload_n 3, 1) := by decide +kernel
theorem dX11_row_49 : decode cX11_row 49 = .ok (.iload_n 1, 1) := by decide +kernel
theorem dX11_row_50 : decode cX11_row 50 = .ok (.invokevirtual 178, 3) := by decide +kernel
theorem dX11_row_53 : decode cX11_row 53 = .ok (.ireturn, 1) := by decide +kernel
theorem dX11_row_54 : decode cX11_row 54 = .ok (.aload_n 3, 1) := by decide +kernel
theorem dX11_row_55 : decode cX11_row 55 = .ok (.iload_n 1, 1) := by decide +kernel
theorem dX11_row_56 : decode cX11_row 56 = .ok (.invokevirtual 179, 3) := by decide +kernel
theorem dX11_row_59 : decode cX11_row 59 = .ok (.ireturn, 1) := by decide +kernel
theorem dX11_row_60 : decode cX11_row 60 = .ok (.aload_n 3, 1) := by decide +kernel
theorem dX11_row_61 : decode cX11_row 61 = .ok (.iload_n 1, 1) := by decide +kernel
theorem dX11_row_62 : decode cX11_row 62 = .ok (.invokevirtual 182, 3) := by decide +kernel
theorem dX11_row_65 : decode cX11_row 65 = .ok (.ireturn, 1) := by decide +kernel
theorem dX11_row_66 : decode cX11_row 66 = .ok (.aload_n 3, 1) := by decide +kernel
theorem dX11_row_67 : decode cX11_row 67 = .ok (.iload_n 1, 1) := by decide +kernel
theorem dX11_row_68 : decode cX11_row 68 = .ok (.invokevirtual 185, 3) := by decide +kernel
theorem dX11_row_71 : decode cX11_row 71 = .ok (.ifCond .eq 7, 3) := by decide +kernel
theorem dX11_row_74 : decode cX11_row 74 = .ok (.iconst 1, 1) := by decide +kernel
theorem dX11_row_75 : decode cX11_row 75 = .ok (.goto 4, 3) := by decide +kernel
theorem dX11_row_78 : decode cX11_row 78 = .ok (.iconst 0, 1) := by decide +kernel
theorem dX11_row_79 : decode cX11_row 79 = .ok (.ireturn, 1) := by decide +kernel
theorem dX11_row_80 : decode cX11_row 80 = .ok (.iconst (-1), 1) := by decide +kernel
theorem dX11_row_81 : decode cX11_row 81 = .ok (.ireturn, 1) := by decide +kernel
theorem dX11_rowAt_0 : decode cX11_rowAt 0 = .ok (.aload_n 0, 1) := by decide +kernel
theorem dX11_rowAt_1 : decode cX11_rowAt 1 = .ok (.getfield 51, 3) := by decide +kernel
theorem dX11_rowAt_4 : decode cX11_rowAt 4 = .ok (.getfield 101, 3) := by decide +kernel
theorem dX11_rowAt_7 : decode cX11_rowAt 7 = .ok (.iload_n 1, 1) := by decide +kernel
theorem dX11_rowAt_8 : decode cX11_rowAt 8 = .ok (.invokevirtual 177, 3) := by decide +kernel
theorem dX11_rowAt_11 : decode cX11_rowAt 11 = .ok (.ifCond .eq 17, 3) := by decide +kernel
theorem dX11_rowAt_14 : decode cX11_rowAt 14 = .ok (.aload_n 0, 1) := by decide +kernel
theorem dX11_rowAt_15 : decode cX11_rowAt 15 = .ok (.getfield 51, 3) := by decide +kernel
theorem dX11_rowAt_18 : decode cX11_rowAt 18 = .ok (.getfield 101, 3) := by decide +kernel
theorem dX11_rowAt_21 : decode cX11_rowAt 21 = .ok (.iload_n 1, 1) := by decide +kernel
theorem dX11_rowAt_22 : decode cX11_rowAt 22 = .ok (.invokevirtual 188, 3) := by decide +kernel
theorem dX11_rowAt_25 : decode cX11_rowAt 25 = .ok (.goto 6, 3) := by decide +kernel
theorem dX11_rowAt_28 : decode cX11_rowAt 28 = .ok (.ldc2_w 167, 3) := by decide +kernel
theorem dX11_rowAt_31 : decode cX11_rowAt 31 = .ok (.lreturn, 1) := by decide +kernel
theorem dX11_find_0 : decode cX11_find 0 = .ok (.aload_n 0, 1) := by decide +kernel
theorem dX11_find_1 : decode cX11_find 1 = .ok (.getfield 44, 3) := by decide +kernel
theorem dX11_find_4 : decode cX11_find 4 = .ok (.aload_n 0, 1) := by decide +kernel
theorem dX11_find_5 : decode cX11_find 5 = .ok (.getfield 51, 3) := by decide +kernel
theorem dX11_find_8 : decode cX11_find 8 = .ok (.lload_n 1, 1) := by decide +kernel
theorem dX11_find_9 : decode cX11_find 9 = .ok (.invokevirtual 191, 3) := by decide +kernel
theorem dX11_find_12 : decode cX11_find 12 = .ok (.ireturn, 1) := by decide +kernel
theorem dX11_frame_0 : decode cX11_frame 0 = .ok (.aload_n 0, 1) := by decide +kernel
theorem dX11_frame_1 : decode cX11_frame 1 = .ok (.getfield 44, 3) := by decide +kernel
theorem dX11_frame_4 : decode cX11_frame 4 = .ok (.iload_n 1, 1) := by decide +kernel
theorem dX11_frame_5 : decode cX11_frame 5 = .ok (.invokevirtual 195, 3) := by decide +kernel
theorem dX11_frame_8 : decode cX11_frame 8 = .ok (.istore_n 3, 1) := by decide +kernel
theorem dX11_frame_9 : decode cX11_frame 9 = .ok (.iload_n 3, 1) := by decide +kernel
theorem dX11_frame_10 : decode cX11_frame 10 = .ok (.iconst (-1), 1) := by decide +kernel
theorem dX11_frame_11 : decode cX11_frame 11 = .ok (.if_icmp .ne 5, 3) := by decide +kernel
theorem dX11_frame_14 : decode cX11_frame 14 = .ok (.iconst (-1), 1) := by decide +kernel
theorem dX11_frame_15 : decode cX11_frame 15 = .ok (.ireturn, 1) := by decide +kernel
theorem dX11_frame_16 : decode cX11_frame 16 = .ok (.iload_n 2, 1) := by decide +kernel
theorem dX11_frame_17 : decode cX11_frame 17 = .ok (.tableswitch 108 0 4 #[35, 37, 50, 63, 85], 35) := by decide +kernel
theorem dX11_frame_52 : decode cX11_frame 52 = .ok (.iload_n 3, 1) := by decide +kernel
theorem dX11_frame_53 : decode cX11_frame 53 = .ok (.ireturn, 1) := by decide +kernel
theorem dX11_frame_54 : decode cX11_frame 54 = .ok (.aload_n 0, 1) := by decide +kernel
theorem dX11_frame_55 : decode cX11_frame 55 = .ok (.getfield 44, 3) := by decide +kernel
theorem dX11_frame_58 : decode cX11_frame 58 = .ok (.aload_n 0, 1) := by decide +kernel
theorem dX11_frame_59 : decode cX11_frame 59 = .ok (.getfield 51, 3) := by decide +kernel
theorem dX11_frame_62 : decode cX11_frame 62 = .ok (.iload_n 1, 1) := by decide +kernel
theorem dX11_frame_63 : decode cX11_frame 63 = .ok (.invokevirtual 198, 3) := by decide +kernel
theorem dX11_frame_66 : decode cX11_frame 66 = .ok (.ireturn, 1) := by decide +kernel
theorem dX11_frame_67 : decode cX11_frame 67 = .ok (.aload_n 0, 1) := by decide +kernel
theorem dX11_frame_68 : decode cX11_frame 68 = .ok (.getfield 44, 3) := by decide +kernel
theorem dX11_frame_71 : decode cX11_frame 71 = .ok (.aload_n 0, 1) := by decide +kernel
theorem dX11_frame_72 : decode cX11_frame 72 = .ok (.getfield 51, 3) := by decide +kernel
theorem dX11_frame_75 : decode cX11_frame 75 = .ok (.iload_n 1, 1) := by decide +kernel
theorem dX11_frame_76 : decode cX11_frame 76 = .ok (.invokevirtual 202, 3) := by decide +kernel
theorem dX11_frame_79 : decode cX11_frame 79 = .ok (.ireturn, 1) := by decide +kernel
theorem dX11_frame_80 : decode cX11_frame 80 = .ok (.aload_n 0, 1) := by decide +kernel
theorem dX11_frame_81 : decode cX11_frame 81 = .ok (.getfield 51, 3) := by decide +kernel
theorem dX11_frame_84 : decode cX11_frame 84 = .ok (.getfield 115, 3) := by decide +kernel
theorem dX11_frame_87 : decode cX11_frame 87 = .ok (.aload_n 0, 1) := by decide +kernel
theorem dX11_frame_88 : decode cX11_frame 88 = .ok (.getfield 51, 3) := by decide +kernel
theorem dX11_frame_91 : decode cX11_frame 91 = .ok (.getfield 115, 3) := by decide +kernel
theorem dX11_frame_94 : decode cX11_frame 94 = .ok (.iload_n 3, 1) := by decide +kernel
theorem dX11_frame_95 : decode cX11_frame 95 = .ok (.invokevirtual 161, 3) := by decide +kernel
theorem dX11_frame_98 : decode cX11_frame 98 = .ok (.invokevirtual 164, 3) := by decide +kernel
theorem dX11_frame_101 : decode cX11_frame 101 = .ok (.ireturn, 1) := by decide +kernel
theorem dX11_frame_102 : decode cX11_frame 102 = .ok (.aload_n 0, 1) := by decide +kernel
theorem dX11_frame_103 : decode cX11_frame 103 = .ok (.getfield 51, 3) := by decide +kernel
theorem dX11_frame_106 : decode cX11_frame 106 = .ok (.getfield 205, 3) := by decide +kernel
theorem dX11_frame_109 : decode cX11_frame 109 = .ok (.aload_n 0, 1) := by decide +kernel
theorem dX11_frame_110 : decode cX11_frame 110 = .ok (.getfield 44, 3) := by decide +kernel
theorem dX11_frame_113 : decode cX11_frame 113 = .ok (.aload_n 0, 1) := by decide +kernel
theorem dX11_frame_114 : decode cX11_frame 114 = .ok (.getfield 51, 3) := by decide +kernel
theorem dX11_frame_117 : decode cX11_frame 117 = .ok (.iload_n 1, 1) := by decide +kernel
theorem dX11_frame_118 : decode cX11_frame 118 = .ok (.invokevirtual 209, 3) := by decide +kernel
theorem dX11_frame_121 : decode cX11_frame 121 = .ok (.invokevirtual 211, 3) := by decide +kernel
theorem dX11_frame_124 : decode cX11_frame 124 = .ok (.ireturn, 1) := by decide +kernel
theorem dX11_frame_125 : decode cX11_frame 125 = .ok (.iconst (-1), 1) := by decide +kernel
theorem dX11_frame_126 : decode cX11_frame 126 = .ok (.ireturn, 1) := by decide +kernel
theorem dX11_name_0 : decode cX11_name 0 = .ok (.iload_n 1, 1) := by decide +kernel
theorem dX11_name_1 : decode cX11_name 1 = .ok (.iconst (-1), 1) := by decide +kernel
theorem dX11_name_2 : decode cX11_name 2 = .ok (.if_icmp .ne 39, 3) := by decide +kernel
theorem dX11_name_5 : decode cX11_name 5 = .ok (.aload_n 0, 1) := by decide +kernel
theorem dX11_name_6 : decode cX11_name 6 = .ok (.getfield 44, 3) := by decide +kernel
theorem dX11_name_9 : decode cX11_name 9 = .ok (.invokevirtual 216, 3) := by decide +kernel
theorem dX11_name_12 : decode cX11_name 12 = .ok (.istore_n 3, 1) := by decide +kernel
theorem dX11_name_13 : decode cX11_name 13 = .ok (.aload_n 0, 1) := by decide +kernel
theorem dX11_name_14 : decode cX11_name 14 = .ok (.aload_n 0, 1) := by decide +kernel
theorem dX11_name_15 : decode cX11_name 15 = .ok (.getfield 51, 3) := by decide +kernel
theorem dX11_name_18 : decode cX11_name 18 = .ok (.getfield 80, 3) := by decide +kernel
theorem dX11_name_21 : decode cX11_name 21 = .ok (.iload_n 3, 1) := by decide +kernel
theorem dX11_name_22 : decode cX11_name 22 = .ok (.invokevirtual 219, 3) := by decide +kernel
theorem dX11_name_25 : decode cX11_name 25 = .ok (.aload_n 0, 1) := by decide +kernel
theorem dX11_name_26 : decode cX11_name 26 = .ok (.getfield 51, 3) := by decide +kernel
theorem dX11_name_29 : decode cX11_name 29 = .ok (.getfield 80, 3) := by decide +kernel
theorem dX11_name_32 : decode cX11_name 32 = .ok (.iload_n 3, 1) := by decide +kernel
theorem dX11_name_33 : decode cX11_name 33 = .ok (.invokevirtual 222, 3) := by decide +kernel
theorem dX11_name_36 : decode cX11_name 36 = .ok (.iload_n 2, 1) := by decide +kernel
theorem dX11_name_37 : decode cX11_name 37 = .ok (.invokevirtual 223, 3) := by decide +kernel
theorem dX11_name_40 : decode cX11_name 40 = .ok (.ireturn, 1) := by decide +kernel
theorem dX11_name_41 : decode cX11_name 41 = .ok (.aload_n 0, 1) := by decide +kernel
theorem dX11_name_42 : decode cX11_name 42 = .ok (.getfield 51, 3) := by decide +kernel
theorem dX11_name_45 : decode cX11_name 45 = .ok (.getfield 115, 3) := by decide +kernel
theorem dX11_name_48 : decode cX11_name 48 = .ok (.aload_n 0, 1) := by decide +kernel
theorem dX11_name_49 : decode cX11_name 49 = .ok (.getfield 44, 3) := by decide +kernel
theorem dX11_name_52 : decode cX11_name 52 = .ok (.iload_n 1, 1) := by decide +kernel
theorem dX11_name_53 : decode cX11_name 53 = .ok (.invokevirtual 195, 3) := by decide +kernel
theorem dX11_name_56 : decode cX11_name 56 = .ok (.invokevirtual 161, 3) := by decide +kernel
theorem dX11_name_59 : decode cX11_name 59 = .ok (.istore_n 3, 1) := by decide +kernel
theorem dX11_name_60 : decode cX11_name 60 = .ok (.aload_n 0, 1) := by decide +kernel
theorem dX11_name_61 : decode cX11_name 61 = .ok (.aload_n 0, 1) := by decide +kernel
theorem dX11_name_62 : decode cX11_name 62 = .ok (.getfield 51, 3) := by decide +kernel
theorem dX11_name_65 : decode cX11_name 65 = .ok (.getfield 115, 3) := by decide +kernel
theorem dX11_name_68 : decode cX11_name 68 = .ok (.iload_n 3, 1) := by decide +kernel
theorem dX11_name_69 : decode cX11_name 69 = .ok (.invokevirtual 227, 3) := by decide +kernel
theorem dX11_name_72 : decode cX11_name 72 = .ok (.aload_n 0, 1) := by decide +kernel
theorem dX11_name_73 : decode cX11_name 73 = .ok (.getfield 51, 3) := by decide +kernel
theorem dX11_name_76 : decode cX11_name 76 = .ok (.getfield 115, 3) := by decide +kernel
theorem dX11_name_79 : decode cX11_name 79 = .ok (.iload_n 3, 1) := by decide +kernel
theorem dX11_name_80 : decode cX11_name 80 = .ok (.invokevirtual 164, 3) := by decide +kernel
theorem dX11_name_83 : decode cX11_name 83 = .ok (.iload_n 2, 1) := by decide +kernel
theorem dX11_name_84 : decode cX11_name 84 = .ok (.invokevirtual 223, 3) := by decide +kernel
theorem dX11_name_87 : decode cX11_name 87 = .ok (.ireturn, 1) := by decide +kernel
theorem dX11_file_0 : decode cX11_file 0 = .ok (.aload_n 0, 1) := by decide +kernel
theorem dX11_file_1 : decode cX11_file 1 = .ok (.getfield 44, 3) := by decide +kernel
theorem dX11_file_4 : decode cX11_file 4 = .ok (.aload_n 0, 1) := by decide +kernel
theorem dX11_file_5 : decode cX11_file 5 = .ok (.getfield 51, 3) := by decide +kernel
theorem dX11_file_8 : decode cX11_file 8 = .ok (.iload_n 1, 1) := by decide +kernel
theorem dX11_file_9 : decode cX11_file 9 = .ok (.invokevirtual 209, 3) := by decide +kernel
theorem dX11_file_12 : decode cX11_file 12 = .ok (.istore_n 3, 1) := by decide +kernel
theorem dX11_file_13 : decode cX11_file 13 = .ok (.aload_n 0, 1) := by decide +kernel
theorem dX11_file_14 : decode cX11_file 14 = .ok (.aload_n 0, 1) := by decide +kernel
theorem dX11_file_15 : decode cX11_file 15 = .ok (.getfield 51, 3) := by decide +kernel
theorem dX11_file_18 : decode cX11_file 18 = .ok (.getfield 205, 3) := by decide +kernel
theorem dX11_file_21 : decode cX11_file 21 = .ok (.iload_n 3, 1) := by decide +kernel
theorem dX11_file_22 : decode cX11_file 22 = .ok (.invokevirtual 228, 3) := by decide +kernel
theorem dX11_file_25 : decode cX11_file 25 = .ok (.aload_n 0, 1) := by decide +kernel
theorem dX11_file_26 : decode cX11_file 26 = .ok (.getfield 51, 3) := by decide +kernel
theorem dX11_file_29 : decode cX11_file 29 = .ok (.getfield 205, 3) := by decide +kernel
theorem dX11_file_32 : decode cX11_file 32 = .ok (.iload_n 3, 1) := by decide +kernel
theorem dX11_file_33 : decode cX11_file 33 = .ok (.invokevirtual 211, 3) := by decide +kernel
theorem dX11_file_36 : decode cX11_file 36 = .ok (.iload_n 2, 1) := by decide +kernel
theorem dX11_file_37 : decode cX11_file 37 = .ok (.invokevirtual 223, 3) := by decide +kernel
theorem dX11_file_40 : decode cX11_file 40 = .ok (.ireturn, 1) := by decide +kernel
theorem dX11_sign_0 : decode cX11_sign 0 = .ok (.iload_n 1, 1) := by decide +kernel
theorem dX11_sign_1 : decode cX11_sign 1 = .ok (.ifCond .lt 23, 3) := by decide +kernel
theorem dX11_sign_4 : decode cX11_sign 4 = .ok (.iload_n 3, 1) := by decide +kernel
theorem dX11_sign_5 : decode cX11_sign 5 = .ok (.ifCond .lt 19, 3) := by decide +kernel
theorem dX11_sign_8 : decode cX11_sign 8 = .ok (.iload_n 3, 1) := by decide +kernel
theorem dX11_sign_9 : decode cX11_sign 9 = .ok (.iload_n 2, 1) := by decide +kernel
theorem dX11_sign_10 : decode cX11_sign 10 = .ok (.if_icmp .ge 14, 3) := by decide +kernel
theorem dX11_sign_13 : decode cX11_sign 13 = .ok (.iload_n 3, 1) := by decide +kernel
theorem dX11_sign_14 : decode cX11_sign 14 = .ok (.aload_n 0, 1) := by decide +kernel
theorem dX11_sign_15 : decode cX11_sign 15 = .ok (.getfield 13, 3) := by decide +kernel
theorem dX11_sign_18 : decode cX11_sign 18 = .ok (.arraylength, 1) := by decide +kernel
theorem dX11_sign_19 : decode cX11_sign 19 = .ok (.iload_n 1, 1) := by decide +kernel
theorem dX11_sign_20 : decode cX11_sign 20 = .ok (.isub, 1) := by decide +kernel
theorem dX11_sign_21 : decode cX11_sign 21 = .ok (.if_icmp .lt 5, 3) := by decide +kernel
theorem dX11_sign_24 : decode cX11_sign 24 = .ok (.iconst (-1), 1) := by decide +kernel
theorem dX11_sign_25 : decode cX11_sign 25 = .ok (.ireturn, 1) := by decide +kernel
theorem dX11_sign_26 : decode cX11_sign 26 = .ok (.aload_n 0, 1) := by decide +kernel
theorem dX11_sign_27 : decode cX11_sign 27 = .ok (.getfield 13, 3) := by decide +kernel
theorem dX11_sign_30 : decode cX11_sign 30 = .ok (.iload_n 1, 1) := by decide +kernel
theorem dX11_sign_31 : decode cX11_sign 31 = .ok (.iload_n 3, 1) := by decide +kernel
theorem dX11_sign_32 : decode cX11_sign 32 = .ok (.iadd, 1) := by decide +kernel
theorem dX11_sign_33 : decode cX11_sign 33 = .ok (.baload, 1) := by decide +kernel
theorem dX11_sign_34 : decode cX11_sign 34 = .ok (.sipush 255, 3) := by decide +kernel
theorem dX11_sign_37 : decode cX11_sign 37 = .ok (.iand, 1) := by decide +kernel
theorem dX11_sign_38 : decode cX11_sign 38 = .ok (.ireturn, 1) := by decide +kernel
theorem dX11_symbol_0 : decode cX11_symbol 0 = .ok (.aload_n 0, 1) := by decide +kernel
theorem dX11_symbol_1 : decode cX11_symbol 1 = .ok (.getfield 44, 3) := by decide +kernel
theorem dX11_symbol_4 : decode cX11_symbol 4 = .ok (.invokevirtual 216, 3) := by decide +kernel
theorem dX11_symbol_7 : decode cX11_symbol 7 = .ok (.istore_n 2, 1) := by decide +kernel
theorem dX11_symbol_8 : decode cX11_symbol 8 = .ok (.iload_n 2, 1) := by decide +kernel
theorem dX11_symbol_9 : decode cX11_symbol 9 = .ok (.iconst (-1), 1) := by decide +kernel
theorem dX11_symbol_10 : decode cX11_symbol 10 = .ok (.if_icmp .ne 5, 3) := by decide +kernel
theorem dX11_symbol_13 : decode cX11_symbol 13 = .ok (.iconst (-1), 1) := by decide +kernel
theorem dX11_symbol_14 : decode cX11_symbol 14 = .ok (.ireturn, 1) := by decide +kernel
theorem dX11_symbol_15 : decode cX11_symbol 15 = .ok (.iload_n 1, 1) := by decide +kernel
theorem dX11_symbol_16 : decode cX11_symbol 16 = .ok (.tableswitch 50 0 2 #[28, 30, 42], 28) := by decide +kernel
theorem dX11_symbol_44 : decode cX11_symbol 44 = .ok (.iload_n 2, 1) := by decide +kernel
theorem dX11_symbol_45 : decode cX11_symbol 45 = .ok (.ireturn, 1) := by decide +kernel
theorem dX11_symbol_46 : decode cX11_symbol 46 = .ok (.aload_n 0, 1) := by decide +kernel
theorem dX11_symbol_47 : decode cX11_symbol 47 = .ok (.getfield 51, 3) := by decide +kernel
theorem dX11_symbol_50 : decode cX11_symbol 50 = .ok (.getfield 80, 3) := by decide +kernel
theorem dX11_symbol_53 : decode cX11_symbol 53 = .ok (.iload_n 2, 1) := by decide +kernel
theorem dX11_symbol_54 : decode cX11_symbol 54 = .ok (.invokevirtual 222, 3) := by decide +kernel
theorem dX11_symbol_57 : decode cX11_symbol 57 = .ok (.ireturn, 1) := by decide +kernel
theorem dX11_symbol_58 : decode cX11_symbol 58 = .ok (.aload_n 0, 1) := by decide +kernel
theorem dX11_symbol_59 : decode cX11_symbol 59 = .ok (.getfield 44, 3) := by decide +kernel
theorem dX11_symbol_62 : decode cX11_symbol 62 = .ok (.invokevirtual 231, 3) := by decide +kernel
theorem dX11_symbol_65 : decode cX11_symbol 65 = .ok (.ireturn, 1) := by decide +kernel
theorem dX11_symbol_66 : decode cX11_symbol 66 = .ok (.iconst (-1), 1) := by decide +kernel
theorem dX11_symbol_67 : decode cX11_symbol 67 = .ok (.ireturn, 1) := by decide +kernel
theorem dX11_count_0 : decode cX11_count 0 = .ok (.iload_n 1, 1) := by decide +kernel
theorem dX11_count_1 : decode cX11_count 1 = .ok (.tableswitch 126 0 7 #[47, 52, 60, 71, 82, 93, 104, 115], 47) := by decide +kernel
theorem dX11_count_48 : decode cX11_count 48 = .ok (.aload_n 0, 1) := by decide +kernel
theorem dX11_count_49 : decode cX11_count 49 = .ok (.getfield 58, 3) := by decide +kernel
theorem dX11_count_52 : decode cX11_count 52 = .ok (.ireturn, 1) := by decide +kernel
theorem dX11_count_53 : decode cX11_count 53 = .ok (.aload_n 0, 1) := by decide +kernel
theorem dX11_count_54 : decode cX11_count 54 = .ok (.getfield 51, 3) := by decide +kernel
theorem dX11_count_57 : decode cX11_count 57 = .ok (.getfield 77, 3) := by decide +kernel
theorem dX11_count_60 : decode cX11_count 60 = .ok (.ireturn, 1) := by decide +kernel
theorem dX11_count_61 : decode cX11_count 61 = .ok (.aload_n 0, 1) := by decide +kernel
theorem dX11_count_62 : decode cX11_count 62 = .ok (.getfield 51, 3) := by decide +kernel
theorem dX11_count_65 : decode cX11_count 65 = .ok (.getfield 80, 3) := by decide +kernel
theorem dX11_count_68 : decode cX11_count 68 = .ok (.invokevirtual 234, 3) := by decide +kernel
theorem dX11_count_71 : decode cX11_count 71 = .ok (.ireturn, 1) := by decide +kernel
theorem dX11_count_72 : decode cX11_count 72 = .ok (.aload_n 0, 1) := by decide +kernel
theorem dX11_count_73 : decode cX11_count 73 = .ok (.getfield 51, 3) := by decide +kernel
theorem dX11_count_76 : decode cX11_count 76 = .ok (.getfield 205, 3) := by decide +kernel
theorem dX11_count_79 : decode cX11_count 79 = .ok (.invokevirtual 235, 3) := by decide +kernel
theorem dX11_count_82 : decode cX11_count 82 = .ok (.ireturn, 1) := by decide +kernel
theorem dX11_count_83 : decode cX11_count 83 = .ok (.aload_n 0, 1) := by decide +kernel
theorem dX11_count_84 : decode cX11_count 84 = .ok (.getfield 51, 3) := by decide +kernel
theorem dX11_count_87 : decode cX11_count 87 = .ok (.getfield 115, 3) := by decide +kernel
theorem dX11_count_90 : decode cX11_count 90 = .ok (.invokevirtual 119, 3) := by decide +kernel
theorem dX11_count_93 : decode cX11_count 93 = .ok (.ireturn, 1) := by decide +kernel
theorem dX11_count_94 : decode cX11_count 94 = .ok (.aload_n 0, 1) := by decide +kernel
theorem dX11_count_95 : decode cX11_count 95 = .ok (.getfield 51, 3) := by decide +kernel
theorem dX11_count_98 : decode cX11_count 98 = .ok (.getfield 92, 3) := by decide +kernel
theorem dX11_count_101 : decode cX11_count 101 = .ok (.invokevirtual 236, 3) := by decide +kernel
theorem dX11_count_104 : decode cX11_count 104 = .ok (.ireturn, 1) := by decide +kernel
theorem dX11_count_105 : decode cX11_count 105 = .ok (.aload_n 0, 1) := by decide +kernel
theorem dX11_count_106 : decode cX11_count 106 = .ok (.getfield 51, 3) := by decide +kernel
theorem dX11_count_109 : decode cX11_count 109 = .ok (.getfield 101, 3) := by decide +kernel
theorem dX11_count_112 : decode cX11_count 112 = .ok (.invokevirtual 237, 3) := by decide +kernel
theorem dX11_count_115 : decode cX11_count 115 = .ok (.ireturn, 1) := by decide +kernel
theorem dX11_count_116 : decode cX11_count 116 = .ok (.aload_n 0, 1) := by decide +kernel
theorem dX11_count_117 : decode cX11_count 117 = .ok (.getfield 51, 3) := by decide +kernel
theorem dX11_count_120 : decode cX11_count 120 = .ok (.getfield 205, 3) := by decide +kernel
theorem dX11_count_123 : decode cX11_count 123 = .ok (.invokevirtual 238, 3) := by decide +kernel
theorem dX11_count_126 : decode cX11_count 126 = .ok (.ireturn, 1) := by decide +kernel
theorem dX11_count_127 : decode cX11_count 127 = .ok (.iconst (-1), 1) := by decide +kernel
theorem dX11_count_128 : decode cX11_count 128 = .ok (.ireturn, 1) := by decide +kernel
theorem dX11_at_0 : decode cX11_at 0 = .ok (.iload_n 1, 1) := by decide +kernel
theorem dX11_at_1 : decode cX11_at 1 = .ok (.ifCond .lt 15, 3) := by decide +kernel
theorem dX11_at_4 : decode cX11_at 4 = .ok (.iload_n 1, 1) := by decide +kernel
theorem dX11_at_5 : decode cX11_at 5 = .ok (.aload_n 0, 1) := by decide +kernel
theorem dX11_at_6 : decode cX11_at 6 = .ok (.arraylength, 1) := by decide +kernel
theorem dX11_at_7 : decode cX11_at 7 = .ok (.if_icmp .ge 9, 3) := by decide +kernel
theorem dX11_at_10 : decode cX11_at 10 = .ok (.aload_n 0, 1) := by decide +kernel
theorem dX11_at_11 : decode cX11_at 11 = .ok (.iload_n 1, 1) := by decide +kernel
theorem dX11_at_12 : decode cX11_at 12 = .ok (.iaload, 1) := by decide +kernel
theorem dX11_at_13 : decode cX11_at 13 = .ok (.goto 4, 3) := by decide +kernel
theorem dX11_at_16 : decode cX11_at 16 = .ok (.iconst (-1), 1) := by decide +kernel
theorem dX11_at_17 : decode cX11_at 17 = .ok (.ireturn, 1) := by decide +kernel
theorem dX11_at__0 : decode cX11_at_ 0 = .ok (.iload_n 1, 1) := by decide +kernel
theorem dX11_at__1 : decode cX11_at_ 1 = .ok (.ifCond .lt 15, 3) := by decide +kernel
theorem dX11_at__4 : decode cX11_at_ 4 = .ok (.iload_n 1, 1) := by decide +kernel
theorem dX11_at__5 : decode cX11_at_ 5 = .ok (.aload_n 0, 1) := by decide +kernel
theorem dX11_at__6 : decode cX11_at_ 6 = .ok (.arraylength, 1) := by decide +kernel
theorem dX11_at__7 : decode cX11_at_ 7 = .ok (.if_icmp .ge 9, 3) := by decide +kernel
theorem dX11_at__10 : decode cX11_at_ 10 = .ok (.aload_n 0, 1) := by decide +kernel
theorem dX11_at__11 : decode cX11_at_ 11 = .ok (.iload_n 1, 1) := by decide +kernel
theorem dX11_at__12 : decode cX11_at_ 12 = .ok (.laload, 1) := by decide +kernel
theorem dX11_at__13 : decode cX11_at_ 13 = .ok (.goto 6, 3) := by decide +kernel
theorem dX11_at__16 : decode cX11_at_ 16 = .ok (.ldc2_w 167, 3) := by decide +kernel
theorem dX11_at__19 : decode cX11_at_ 19 = .ok (.lreturn, 1) := by decide +kernel
theorem dX11_put_0 : decode cX11_put 0 = .ok (.iload_n 1, 1) := by decide +kernel
theorem dX11_put_1 : decode cX11_put 1 = .ok (.ifCond .lt 13, 3) := by decide +kernel
theorem dX11_put_4 : decode cX11_put 4 = .ok (.iload_n 1, 1) := by decide +kernel
theorem dX11_put_5 : decode cX11_put 5 = .ok (.aload_n 0, 1) := by decide +kernel
theorem dX11_put_6 : decode cX11_put 6 = .ok (.arraylength, 1) := by decide +kernel
theorem dX11_put_7 : decode cX11_put 7 = .ok (.if_icmp .ge 7, 3) := by decide +kernel
theorem dX11_put_10 : decode cX11_put 10 = .ok (.aload_n 0, 1) := by decide +kernel
theorem dX11_put_11 : decode cX11_put 11 = .ok (.iload_n 1, 1) := by decide +kernel
theorem dX11_put_12 : decode cX11_put 12 = .ok (.iload_n 2, 1) := by decide +kernel
theorem dX11_put_13 : decode cX11_put 13 = .ok (.iastore, 1) := by decide +kernel
theorem dX11_put_14 : decode cX11_put 14 = .ok (.return_, 1) := by decide +kernel
theorem dX11_put__0 : decode cX11_put_ 0 = .ok (.iload_n 1, 1) := by decide +kernel
theorem dX11_put__1 : decode cX11_put_ 1 = .ok (.ifCond .lt 13, 3) := by decide +kernel
theorem dX11_put__4 : decode cX11_put_ 4 = .ok (.iload_n 1, 1) := by decide +kernel
theorem dX11_put__5 : decode cX11_put_ 5 = .ok (.aload_n 0, 1) := by decide +kernel
theorem dX11_put__6 : decode cX11_put_ 6 = .ok (.arraylength, 1) := by decide +kernel
theorem dX11_put__7 : decode cX11_put_ 7 = .ok (.if_icmp .ge 7, 3) := by decide +kernel
theorem dX11_put__10 : decode cX11_put_ 10 = .ok (.aload_n 0, 1) := by decide +kernel
theorem dX11_put__11 : decode cX11_put_ 11 = .ok (.iload_n 1, 1) := by decide +kernel
theorem dX11_put__12 : decode cX11_put_ 12 = .ok (.lload_n 2, 1) := by decide +kernel
theorem dX11_put__13 : decode cX11_put_ 13 = .ok (.lastore, 1) := by decide +kernel
theorem dX11_put__14 : decode cX11_put_ 14 = .ok (.return_, 1) := by decide +kernel
theorem dX11_above_0 : decode cX11_above 0 = .ok (.lload_n 0, 1) := by decide +kernel
theorem dX11_above_1 : decode cX11_above 1 = .ok (.lload_n 2, 1) := by decide +kernel
theorem dX11_above_2 : decode cX11_above 2 = .ok (.ladd, 1) := by decide +kernel
theorem dX11_above_3 : decode cX11_above 3 = .ok (.lstore 4, 2) := by decide +kernel
theorem dX11_above_5 : decode cX11_above 5 = .ok (.lload 4, 2) := by decide +kernel
theorem dX11_above_7 : decode cX11_above 7 = .ok (.lload_n 0, 1) := by decide +kernel
theorem dX11_above_8 : decode cX11_above 8 = .ok (.lcmp, 1) := by decide +kernel
theorem dX11_above_9 : decode cX11_above 9 = .ok (.ifCond .ge 9, 3) := by decide +kernel
theorem dX11_above_12 : decode cX11_above 12 = .ok (.ldc2_w 167, 3) := by decide +kernel
theorem dX11_above_15 : decode cX11_above 15 = .ok (.goto 5, 3) := by decide +kernel
theorem dX11_above_18 : decode cX11_above 18 = .ok (.lload 4, 2) := by decide +kernel
theorem dX11_above_20 : decode cX11_above 20 = .ok (.lreturn, 1) := by decide +kernel
theorem dX12_init_0 : decode cX12_init 0 = .ok (.aload_n 0, 1) := by decide +kernel
theorem dX12_init_1 : decode cX12_init 1 = .ok (.invokespecial 1, 3) := by decide +kernel
theorem dX12_init_4 : decode cX12_init 4 = .ok (.aload_n 0, 1) := by decide +kernel
theorem dX12_init_5 : decode cX12_init 5 = .ok (.sipush 8000, 3) := by decide +kernel
theorem dX12_init_8 : decode cX12_init 8 = .ok (.newarray .int, 2) := by decide +kernel
theorem dX12_init_10 : decode cX12_init 10 = .ok (.putfield 9, 3) := by decide +kernel
theorem dX12_init_13 : decode cX12_init 13 = .ok (.aload_n 0, 1) := by decide +kernel
theorem dX12_init_14 : decode cX12_init 14 = .ok (.iconst (-1), 1) := by decide +kernel
theorem dX12_init_15 : decode cX12_init 15 = .ok (.putfield 13, 3) := by decide +kernel
theorem dX12_init_18 : decode cX12_init 18 = .ok (.aload_n 0, 1) := by decide +kernel
theorem dX12_init_19 : decode cX12_init 19 = .ok (.iconst 1, 1) := by decide +kernel
theorem dX12_init_20 : decode cX12_init 20 = .ok (.putfield 17, 3) := by decide +kernel
theorem dX12_init_23 : decode cX12_init 23 = .ok (.aload_n 0, 1) := by decide +kernel
theorem dX12_init_24 : decode cX12_init 24 = .ok (.sipush 16000, 3) := by decide +kernel
theorem dX12_init_27 : decode cX12_init 27 = .ok (.newarray .int, 2) := by decide +kernel
theorem dX12_init_29 : decode cX12_init 29 = .ok (.putfield 20, 3) := by decide +kernel
theorem dX12_init_32 : decode cX12_init 32 = .ok (.aload_n 0, 1) := by decide +kernel
theorem dX12_init_33 : decode cX12_init 33 = .ok (.iconst 2, 1) := by decide +kernel
theorem dX12_init_34 : decode cX12_init 34 = .ok (.newarray .int, 2) := by decide +kernel
theorem dX12_init_36 : decode cX12_init 36 = .ok (.putfield 23, 3) := by decide +kernel
theorem dX12_init_39 : decode cX12_init 39 = .ok (.aload_n 0, 1) := by decide +kernel
theorem dX12_init_40 : decode cX12_init 40 = .ok (.iconst 2, 1) := by decide +kernel
theorem dX12_init_41 : decode cX12_init 41 = .ok (.newarray .int, 2) := by decide +kernel
theorem dX12_init_43 : decode cX12_init 43 = .ok (.putfield 26, 3) := by decide +kernel
theorem dX12_init_46 : decode cX12_init 46 = .ok (.aload_n 0, 1) := by decide +kernel
theorem dX12_init_47 : decode cX12_init 47 = .ok (.iconst 2, 1) := by decide +kernel
theorem dX12_init_48 : decode cX12_init 48 = .ok (.newarray .int, 2) := by decide +kernel
theorem dX12_init_50 : decode cX12_init 50 = .ok (.putfield 29, 3) := by decide +kernel
theorem dX12_init_53 : decode cX12_init 53 = .ok (.aload_n 0, 1) := by decide +kernel
theorem dX12_init_54 : decode cX12_init 54 = .ok (.iconst 2, 1) := by decide +kernel
theorem dX12_init_55 : decode cX12_init 55 = .ok (.newarray .int, 2) := by decide +kernel
theorem dX12_init_57 : decode cX12_init 57 = .ok (.putfield 32, 3) := by decide +kernel
theorem dX12_init_60 : decode cX12_init 60 = .ok (.aload_n 0, 1) := by decide +kernel
theorem dX12_init_61 : decode cX12_init 61 = .ok (.iconst 2, 1) := by decide +kernel
theorem dX12_init_62 : decode cX12_init 62 = .ok (.newarray .int, 2) := by decide +kernel
theorem dX12_init_64 : decode cX12_init 64 = .ok (.putfield 35, 3) := by decide +kernel
theorem dX12_init_67 : decode cX12_init 67 = .ok (.aload_n 0, 1) := by decide +kernel
theorem dX12_init_68 : decode cX12_init 68 = .ok (.iconst 2, 1) := by decide +kernel
theorem dX12_init_69 : decode cX12_init 69 = .ok (.newarray .int, 2) := by decide +kernel
theorem dX12_init_71 : decode cX12_init 71 = .ok (.putfield 38, 3) := by decide +kernel
theorem dX12_init_74 : decode cX12_init 74 = .ok (.aload_n 0, 1) := by decide +kernel
theorem dX12_init_75 : decode cX12_init 75 = .ok (.iconst 2, 1) := by decide +kernel
theorem dX12_init_76 : decode cX12_init 76 = .ok (.newarray .int, 2) := by decide +kernel
theorem dX12_init_78 : decode cX12_init 78 = .ok (.putfield 41, 3) := by decide +kernel
theorem dX12_init_81 : decode cX12_init 81 = .ok (.aload_n 0, 1) := by decide +kernel
theorem dX12_init_82 : decode cX12_init 82 = .ok (.bipush 30, 2) := by decide +kernel
theorem dX12_init_84 : decode cX12_init 84 = .ok (.newarray .int, 2) := by decide +kernel
theorem dX12_init_86 : decode cX12_init 86 = .ok (.putfield 44, 3) := by decide +kernel
theorem dX12_init_89 : decode cX12_init 89 = .ok (.aload_n 0, 1) := by decide +kernel
theorem dX12_init_90 : decode cX12_init 90 = .ok (.bipush 30, 2) := by decide +kernel
theorem dX12_init_92 : decode cX12_init 92 = .ok (.newarray .int, 2) := by decide +kernel
theorem dX12_init_94 : decode cX12_init 94 = .ok (.putfield 47, 3) := by decide +kernel
theorem dX12_init_97 : decode cX12_init 97 = .ok (.aload_n 0, 1) := by decide +kernel
theorem dX12_init_98 : decode cX12_init 98 = .ok (.bipush 30, 2) := by decide +kernel
theorem dX12_init_100 : decode cX12_init 100 = .ok (.newarray .int, 2) := by decide +kernel
theorem dX12_init_102 : decode cX12_init 102 = .ok (.putfield 50, 3) := by decide +kernel
theorem dX12_init_105 : decode cX12_init 105 = .ok (.aload_n 0, 1) := by decide +kernel
theorem dX12_init_106 : decode cX12_init 106 = .ok (.bipush 7, 2) := by decide +kernel
theorem dX12_init_108 : decode cX12_init 108 = .ok (.newarray .int, 2) := by decide +kernel
theorem dX12_init_110 : decode cX12_init 110 = .ok (.putfield 53, 3) := by decide +kernel
theorem dX12_init_113 : decode cX12_init 113 = .ok (.aload_n 0, 1) := by decide +kernel
theorem dX12_init_114 : decode cX12_init 114 = .ok (.bipush 7, 2) := by decide +kernel
theorem dX12_init_116 : decode cX12_init 116 = .ok (.newarray .int, 2) := by decide +kernel
theorem dX12_init_118 : decode cX12_init 118 = .ok (.putfield 56, 3) := by decide +kernel
theorem dX12_init_121 : decode cX12_init 121 = .ok (.aload_n 0, 1) := by decide +kernel
theorem dX12_init_122 : decode cX12_init 122 = .ok (.bipush 81, 2) := by decide +kernel
theorem dX12_init_124 : decode cX12_init 124 = .ok (.newarray .int, 2) := by decide +kernel
theorem dX12_init_126 : decode cX12_init 126 = .ok (.dup, 1) := by decide +kernel
theorem dX12_init_127 : decode cX12_init 127 = .ok (.iconst 0, 1) := by decide +kernel
theorem dX12_init_128 : decode cX12_init 128 = .ok (.bipush 46, 2) := by decide +kernel
theorem dX12_init_130 : decode cX12_init 130 = .ok (.iastore, 1) := by decide +kernel
theorem dX12_init_131 : decode cX12_init 131 = .ok (.dup, 1) := by decide +kernel
theorem dX12_init_132 : decode cX12_init 132 = .ok (.iconst 1, 1) := by decide +kernel
theorem dX12_init_133 : decode cX12_init 133 = .ok (.bipush 115, 2) := by decide +kernel
theorem dX12_init_135 : decode cX12_init 135 = .ok (.iastore, 1) := by decide +kernel
theorem dX12_init_136 : decode cX12_init 136 = .ok (.dup, 1) := by decide +kernel
theorem dX12_init_137 : decode cX12_init 137 = .ok (.iconst 2, 1) := by decide +kernel
theorem dX12_init_138 : decode cX12_init 138 = .ok (.bipush 121, 2) := by decide +kernel
theorem dX12_init_140 : decode cX12_init 140 = .ok (.iastore, 1) := by decide +kernel
theorem dX12_init_141 : decode cX12_init 141 = .ok (.dup, 1) := by decide +kernel
theorem dX12_init_142 : decode cX12_init 142 = .ok (.iconst 3, 1) := by decide +kernel
theorem dX12_init_143 : decode cX12_init 143 = .ok (.bipush 109, 2) := by decide +kernel
theorem dX12_init_145 : decode cX12_init 145 = .ok (.iastore, 1) := by decide +kernel
theorem dX12_init_146 : decode cX12_init 146 = .ok (.dup, 1) := by decide +kernel
theorem dX12_init_147 : decode cX12_init 147 = .ok (.iconst 4, 1) := by decide +kernel
theorem dX12_init_148 : decode cX12_init 148 = .ok (.bipush 116, 2) := by decide +kernel
theorem dX12_init_150 : decode cX12_init 150 = .ok (.iastore, 1) := by decide +kernel
theorem dX12_init_151 : decode cX12_init 151 = .ok (.dup, 1) := by decide +kernel
theorem dX12_init_152 : decode cX12_init 152 = .ok (.iconst 5, 1) := by decide +kernel
theorem dX12_init_153 : decode cX12_init 153 = .ok (.bipush 97, 2) := by decide +kernel
theorem dX12_init_155 : decode cX12_init 155 = .ok (.iastore, 1) := by decide +kernel
theorem dX12_init_156 : decode cX12_init 156 = .ok (.dup, 1) := by decide +kernel
theorem dX12_init_157 : decode cX12_init 157 = .ok (.bipush 6, 2) := by decide +kernel
theorem dX12_init_159 : decode cX12_init 159 = .ok (.bipush 98, 2) := by decide +kernel
theorem dX12_init_161 : decode cX12_init 161 = .ok (.iastore, 1) := by decide +kernel
theorem dX12_init_162 : decode cX12_init 162 = .ok (.dup, 1) := by decide +kernel
theorem dX12_init_163 : decode cX12_init 163 = .ok (.bipush 7, 2) := by decide +kernel
theorem dX12_init_165 : decode cX12_init 165 = .ok (.iconst 0, 1) := by decide +kernel
theorem dX12_init_166 : decode cX12_init 166 = .ok (.iastore, 1) := by decide +kernel
theorem dX12_init_167 : decode cX12_init 167 = .ok (.dup, 1) := by decide +kernel
theorem dX12_init_168 : decode cX12_init 168 = .ok (.bipush 8, 2) := by decide +kernel
theorem dX12_init_170 : decode cX12_init 170 = .ok (.bipush 46, 2) := by decide +kernel
theorem dX12_init_172 : decode cX12_init 172 = .ok (.iastore, 1) := by decide +kernel
theorem dX12_init_173 : decode cX12_init 173 = .ok (.dup, 1) := by decide +kernel
theorem dX12_init_174 : decode cX12_init 174 = .ok (.bipush 9, 2) := by decide +kernel
theorem dX12_init_176 : decode cX12_init 176 = .ok (.bipush 115, 2) := by decide +kernel
theorem dX12_init_178 : decode cX12_init 178 = .ok (.iastore, 1) := by decide +kernel
theorem dX12_init_179 : decode cX12_init 179 = .ok (.dup, 1) := by decide +kernel
theorem dX12_init_180 : decode cX12_init 180 = .ok (.bipush 10, 2) := by decide +kernel
theorem dX12_init_182 : decode cX12_init 182 = .ok (.bipush 116, 2) := by decide +kernel
theorem dX12_init_184 : decode cX12_init 184 = .ok (.iastore, 1) := by decide +kernel
theorem dX12_init_185 : decode cX12_init 185 = .ok (.dup, 1) := by decide +kernel
theorem dX12_init_186 : decode cX12_init 186 = .ok (.bipush 11, 2) := by decide +kernel
theorem dX12_init_188 : decode cX12_init 188 = .ok (.bipush 114, 2) := by decide +kernel
theorem dX12_init_190 : decode cX12_init 190 = .ok (.iastore, 1) := by decide +kernel
theorem dX12_init_191 : decode cX12_init 191 = .ok (.dup, 1) := by decide +kernel
theorem dX12_init_192 : decode cX12_init 192 = .ok (.bipush 12, 2) := by decide +kernel
theorem dX12_init_194 : decode cX12_init 194 = .ok (.bipush 116, 2) := by decide +kernel
theorem dX12_init_196 : decode cX12_init 196 = .ok (.iastore, 1) := by decide +kernel
theorem dX12_init_197 : decode cX12_init 197 = .ok (.dup, 1) := by decide +kernel
theorem dX12_init_198 : decode cX12_init 198 = .ok (.bipush 13, 2) := by decide +kernel
theorem dX12_init_200 : decode cX12_init 200 = .ok (.bipush 97, 2) := by decide +kernel
theorem dX12_init_202 : decode cX12_init 202 = .ok (.iastore, 1) := by decide +kernel
theorem dX12_init_203 : decode cX12_init 203 = .ok (.dup, 1) := by decide +kernel
theorem dX12_init_204 : decode cX12_init 204 = .ok (.bipush 14, 2) := by decide +kernel
theorem dX12_init_206 : decode cX12_init 206 = .ok (.bipush 98, 2) := by decide +kernel
theorem dX12_init_208 : decode cX12_init 208 = .ok (.iastore, 1) := by decide +kernel
theorem dX12_init_209 : decode cX12_init 209 = .ok (.dup, 1) := by decide +kernel
theorem dX12_init_210 : decode cX12_init 210 = .ok (.bipush 15, 2) := by decide +kernel
theorem dX12_init_212 : decode cX12_init 212 = .ok (.iconst 0, 1) := by decide +kernel
theorem dX12_init_213 : decode cX12_init 213 = .ok (.iastore, 1) := by decide +kernel
theorem dX12_init_214 : decode cX12_init 214 = .ok (.dup, 1) := by decide +kernel
theorem dX12_init_215 : decode cX12_init 215 = .ok (.bipush 16, 2) := by decide +kernel
theorem dX12_init_217 : decode cX12_init 217 = .ok (.bipush 46, 2) := by decide +kernel
theorem dX12_init_219 : decode cX12_init 219 = .ok (.iastore, 1) := by decide +kernel
theorem dX12_init_220 : decode cX12_init 220 = .ok (.dup, 1) := by decide +kernel
theorem dX12_init_221 : decode cX12_init 221 = .ok (.bipush 17, 2) := by decide +kernel
theorem dX12_init_223 : decode cX12_init 223 = .ok (.bipush 100, 2) := by decide +kernel
theorem dX12_init_225 : decode cX12_init 225 = .ok (.iastore, 1) := by decide +kernel
theorem dX12_init_226 : decode cX12_init 226 = .ok (.dup, 1) := by decide +kernel
theorem dX12_init_227 : decode cX12_init 227 = .ok (.bipush 18, 2) := by decide +kernel
theorem dX12_init_229 : decode cX12_init 229 = .ok (.bipush 101, 2) := by decide +kernel
theorem dX12_init_231 : decode cX12_init 231 = .ok (.iastore, 1) := by decide +kernel
theorem dX12_init_232 : decode cX12_init 232 = .ok (.dup, 1) := by decide +kernel
theorem dX12_init_233 : decode cX12_init 233 = .ok (.bipush 19, 2) := by decide +kernel
theorem dX12_init_235 : decode cX12_init 235 = .ok (.bipush 98, 2) := by decide +kernel
theorem dX12_init_237 : decode cX12_init 237 = .ok (.iastore, 1) := by decide +kernel
theorem dX12_init_238 : decode cX12_init 238 = .ok (.dup, 1) := by decide +kernel
theorem dX12_init_239 : decode cX12_init 239 = .ok (.bipush 20, 2) := by decide +kernel
theorem dX12_init_241 : decode cX12_init 241 = .ok (.bipush 117, 2) := by decide +kernel
theorem dX12_init_243 : decode cX12_init 243 = .ok (.iastore, 1) := by decide +kernel
theorem dX12_init_244 : decode cX12_init 244 = .ok (.dup, 1) := by decide +kernel
theorem dX12_init_245 : decode cX12_init 245 = .ok (.bipush 21, 2) := by decide +kernel
theorem dX12_init_247 : decode cX12_init 247 = .ok (.bipush 103, 2) := by decide +kernel
theorem dX12_init_249 : decode cX12_init 249 = .ok (.iastore, 1) := by decide +kernel
theorem dX12_init_250 : decode cX12_init 250 = .ok (.dup, 1) := by decide +kernel
theorem dX12_init_251 : decode cX12_init 251 = .ok (.bipush 22, 2) := by decide +kernel
theorem dX12_init_253 : decode cX12_init 253 = .ok (.bipush 95, 2) := by decide +kernel
theorem dX12_init_255 : decode cX12_init 255 = .ok (.iastore, 1) := by decide +kernel
theorem dX12_init_256 : decode cX12_init 256 = .ok (.dup, 1) := by decide +kernel
theorem dX12_init_257 : decode cX12_init 257 = .ok (.bipush 23, 2) := by decide +kernel
theorem dX12_init_259 : decode cX12_init 259 = .ok (.bipush 97, 2) := by decide +kernel
theorem dX12_init_261 : decode cX12_init 261 = .ok (.iastore, 1) := by decide +kernel
theorem dX12_init_262 : decode cX12_init 262 = .ok (.dup, 1) := by decide +kernel
theorem dX12_init_263 : decode cX12_init 263 = .ok (.bipush 24, 2) := by decide +kernel
theorem dX12_init_265 : decode cX12_init 265 = .ok (.bipush 98, 2) := by decide +kernel
theorem dX12_init_267 : decode cX12_init 267 = .ok (.iastore, 1) := by decide +kernel
theorem dX12_init_268 : decode cX12_init 268 = .ok (.dup, 1) := by decide +kernel
theorem dX12_init_269 : decode cX12_init 269 = .ok (.bipush 25, 2) := by decide +kernel
theorem dX12_init_271 : decode cX12_init 271 = .ok (.bipush 98, 2) := by decide +kernel
theorem dX12_init_273 : decode cX12_init 273 = .ok (.iastore, 1) := by decide +kernel
theorem dX12_init_274 : decode cX12_init 274 = .ok (.dup, 1) := by decide +kernel
theorem dX12_init_275 : decode cX12_init 275 = .ok (.bipush 26, 2) := by decide +kernel
theorem dX12_init_277 : decode cX12_init 277 = .ok (.bipush 114, 2) := by decide +kernel
theorem dX12_init_279 : decode cX12_init 279 = .ok (.iastore, 1) := by decide +kernel
theorem dX12_init_280 : decode cX12_init 280 = .ok (.dup, 1) := by decide +kernel
theorem dX12_init_281 : decode cX12_init 281 = .ok (.bipush 27, 2) := by decide +kernel
theorem dX12_init_283 : decode cX12_init 283 = .ok (.bipush 101, 2) := by decide +kernel
theorem dX12_init_285 : decode cX12_init 285 = .ok (.iastore, 1) := by decide +kernel
theorem dX12_init_286 : decode cX12_init 286 = .ok (.dup, 1) := by decide +kernel
theorem dX12_init_287 : decode cX12_init 287 = .ok (.bipush 28, 2) := by decide +kernel
theorem dX12_init_289 : decode cX12_init 289 = .ok (.bipush 118, 2) := by decide +kernel
